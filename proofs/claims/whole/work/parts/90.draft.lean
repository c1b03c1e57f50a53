/-! THE BUILDER, 1: its world: the object bs with its bytes bb; contracts of its methods. -/
def tset (T : Nat → Int) (k : Nat) (v : Int) : Nat → Int := fun j => if j = k then v else T j
theorem tOk_set {T : Nat → Int} {k : Nat} {v : Int} (h : tOk T) (h0 : 0 ≤ v) (h1 : v ≤ 127) : tOk (tset T k v) := fun j => by
  unfold tset
  split
  · exact ⟨h0, h1⟩
  · exact h j
theorem upd_tset {T : Nat → Int} {k : Nat} {v : Int} : upd (fun j => iN (T j)) k (iN v) = fun j => iN (tset T k v j) := by
  funext j
  unfold tset
  by_cases h : j = k <;> simp [upd, h]
abbrev BS : Type := Nat × Nat × Nat × Int32 × (Nat → Int)
abbrev xB (x : BS) : Nat := x.1
abbrev xC (x : BS) : Nat := x.2.1
abbrev xN (x : BS) : Nat := x.2.2.1
abbrev xM (x : BS) : Int32 := x.2.2.2.1
abbrev xT (x : BS) : Nat → Int := x.2.2.2.2
def BW (tA : Nat → ClassId) (bs : Nat) (x : BS) : va_W := [(bs, bObj (xB x) (xN x) (xM x)), (xB x, bByt tA (xC x) (xT x))]
def okX (x : BS) : Prop := cOk (xC x) ∧ xN x ≤ xC x ∧ tOk (xT x)
/-- what a method of the builder may write -/
def bA (bs bb sz : Nat) : Nat → Prop := fun q => q = bs ∨ q = bb ∨ sz ≤ q
/-- what stands still beside the builder -/
def BK (D : va_G) (tA : Nat → ClassId) (n0 : Nat) (adr adV : Nat → Nat) (U : State) (H : Heap) : Prop := va_K D clA [(tA 4, .byte), (tA 5, .long)] U ∧ Stc adr adV (fun q => n0 ≤ q) U H ∧ DG (fun q => n0 ≤ q) U H ∧ PV U
def BPre (D : va_G) (tA : Nat → ClassId) (n0 : Nat) (adr adV : Nat → Nat) (sz bs : Nat) (x : BS) (U : State) : Prop :=
  (U.heap.size = sz ∧ n0 ≤ sz ∧ n0 ≤ bs ∧ n0 ≤ xB x ∧ bs ≠ xB x) ∧ okX x ∧ va_P D clA (BW tA bs x) U.heap ∧ BK D tA n0 adr adV U U.heap
def BPost (D : va_G) (tA : Nat → ClassId) (sz bs bb : Nat) (Rr : Option Value → BS → Prop) : Array Value → State → Outcome → State → Prop := fun _ st oc t =>
  (∃ v x, oc = .returned v ∧ Rr v x ∧ okX x ∧ va_P D clA (BW tA bs x) t.heap ∧ (bs ≠ xB x ∧ bA bs bb sz (xB x))) ∧ va_F (bA bs bb sz) st t
/-- a contract of a builder's method, or of one that it calls -/
def BC (y : MethodName) (cc : ByteArray) (nL : Nat) (ret : Option FieldType) (fr lo mc ms : Nat) (bs : Nat) (av : BS → (Nat → Nat) → List Value) (P : BS → Prop) (Rr : BS → Option Value → BS → Prop) : Prop := ∀ (l : Launch) (D : va_G) (tA : Nat → ClassId) (n0 : Nat) (adr adV : Nat → Nat) (sz : Nat) (x : BS), P x →
  Met l y (Cond.code y cc nL ret :: gW) { frames := fr, cells := mc, slots := ms, locals := lo } (va_Pc (av x adr) (BPre D tA n0 adr adV sz bs x)) (BPost D tA sz bs (xB x) (Rr x)) mc ms (bA bs (xB x) sz)
theorem BK.moved {D : va_G} {tA : Nat → ClassId} {n0 : Nat} {adr adV : Nat → Nat} {u U : State} {H : Heap} (hvm : u.vm.Alike U.vm) (h : BK D tA n0 adr adV u H) : BK D tA n0 adr adV U H := ⟨va_K.moved hvm h.1, Stc.moved hvm h.2.1, h.2.2.1.moved hvm, h.2.2.2.moved hvm⟩
theorem BK.kept {D : va_G} {tA : Nat → ClassId} {n0 : Nat} {adr adV : Nat → Nat} {U : State} {H H1 : Heap} (h : BK D tA n0 adr adV U H) (hq : ∀ a : Nat, a < H.size → ¬ n0 ≤ a → H1[a]? = H[a]?) : BK D tA n0 adr adV U H1 := ⟨h.1, h.2.1.kept hq, h.2.2.1.kept hq, h.2.2.2⟩
theorem BPre.blind {D : va_G} {tA : Nat → ClassId} {n0 : Nat} {adr adV : Nat → Nat} {sz bs : Nat} {x : BS} {vs : List Value} : FrameBlind (va_Pc vs (BPre D tA n0 adr adV sz bs x)) := by
  intro a U g mk ⟨h, h1, h2, h3, h4⟩
  exact ⟨h, h1, h2, h3, BK.moved (u := U) (U := U.calling g mk a) (Vm.Alike.refl U.vm) h4⟩
section B1
variable {p : Program} {l : Launch} {e : Env} {R : Room} {s : State} {m : MethodId} {args : Array Value} {below : List Frame} {meth : Method} {c : Code} {Q : State → Prop}
variable {D : va_G} {tA : Nat → ClassId} {n0 sz bs bb0 : Nat} {adr adV : Nat → Nat} {x : BS} {H : Heap} {locs : List Loc} {cells slots pc : Nat} {ls : Array Slot} {rest st0 : List Value} {nL : Nat} {cc : ByteArray} {own : String}
/-- a method in its run -/
def BX (p : Program) (s : State) (m : MethodId) (args : Array Value) (c : Code) (own : String) (nL : Nat) (cc : ByteArray) : Prop := p.tables.exec = Jvm.exec ∧ c.code = cc ∧ c.maxLocals = nL ∧ s.vm.findClass own = some m.cls ∧ ∀ w ∈ gW, w.before args s = true
/-- the frame's own start: its heap's size, the bytes that it found -/
def BZ (D : va_G) (tA : Nat → ClassId) (n0 : Nat) (adr adV : Nat → Nat) (sz bs bb0 : Nat) (s : State) : Prop := (s.heap.size = sz ∧ n0 ≤ sz ∧ n0 ≤ bs ∧ n0 ≤ bb0) ∧ BK D tA n0 adr adV s s.heap
/-- the world now -/
def GB (D : va_G) (tA : Nat → ClassId) (sz bs bb0 : Nat) (x : BS) (s : State) (H : Heap) (locs : List Loc) : Prop := va_P D clA (BW tA bs x) H ∧ (bs ≠ xB x ∧ bA bs bb0 sz (xB x)) ∧ okX x ∧ va_S (bA bs bb0 sz) s.heap H locs
theorem bA_n0 (h : BZ D tA n0 adr adV sz bs bb0 s) (q : Nat) (hq : bA bs bb0 sz q) : n0 ≤ q := by
  obtain ⟨⟨h1, h2, h3, h4⟩, -⟩ := h
  rcases hq with rfl | rfl | hq
  · exact h3
  · exact h4
  · omega
theorem BZ.S (h : BZ D tA n0 adr adV sz bs bb0 s) (g : GB D tA sz bs bb0 x s H locs) : va_S (fun q => n0 ≤ q) s.heap H locs := ⟨g.2.2.2.1, fun q h1 h2 => g.2.2.2.2.1 q h1 (fun z => h2 (bA_n0 h q z)), fun q hq => bA_n0 h _ (g.2.2.2.2.2 q hq)⟩
theorem GB.dd (g : GB D tA sz bs bb0 x s H locs) : va_D (bA bs bb0 sz) (BW tA bs x) := by
  have hl : ∀ {k : Nat} {q : Nat × va_E}, (BW tA bs x)[k]? = some q → k = 0 ∧ q.1 = bs ∨ k = 1 ∧ q.1 = xB x := by
    intro k q hk
    match k, hk with
    | 0, hk => exact .inl ⟨rfl, by cases hk; rfl⟩
    | 1, hk => exact .inr ⟨rfl, by cases hk; rfl⟩
  refine ⟨fun i j p q hi hj e => ?_, fun k q hk => ?_⟩
  · rcases hl hi with ⟨rfl, h1⟩ | ⟨rfl, h1⟩ <;> rcases hl hj with ⟨rfl, h2⟩ | ⟨rfl, h2⟩
    · rfl
    · exact absurd (h1.symm.trans (e.trans h2)) g.2.1.1
    · exact absurd (h2.symm.trans (e.symm.trans h1)) g.2.1.1
    · rfl
  · rcases hl hk with ⟨-, h1⟩ | ⟨-, h1⟩
    · rw [h1]; exact .inl rfl
    · rw [h1]; exact g.2.1.2
/-- a field of the builder -/
theorem b_get {k index : Nat} {v : Value} (X : BX p s m args c own nL cc) (hz : BZ D tA n0 adr adV sz bs bb0 s) (g : GB D tA sz bs bb0 x s H locs) (hk : k < 4) (hl : Cond.fieldLink own index (TJ4 k).1 (TJ4 k).2.1 (TJ4 k).2.2.1 ∈ gW) (hv : ([.ref (xB x), .int (iN 0), .int (xM x), .int (iN (xN x : Int))] : List Value)[k]? = some v) (hdg : decode cc pc = .ok (.getfield index, 3))
    (kk : W p l e R s m args below meth c H locs cells slots Q (F0 m (pc + 3) ls (v :: rest))) : W p l e R s m args below meth c H locs cells slots Q (F0 m pc ls (.ref bs :: rest)) := by
  obtain ⟨c1, c2⟩ := c13
  exact va_get (ref := (TJ4 k).1) X.1 X.2.1 X.2.2.2.2 c2 X.2.2.2.1 hz.2.1 g.1 0 rfl c1 k hk (X.2.2.2.2 _ hl) (fun _ h => h) hv hdg kk
theorem b_put {k index : Nat} {ty : FieldType} {v : Value} (X : BX p s m args c own nL cc) (hz : BZ D tA n0 adr adV sz bs bb0 s) (g : GB D tA sz bs bb0 x s H locs) (hk : k < 4) (hl : Cond.fieldLink own index (TJ4 k).1 (TJ4 k).2.1 (TJ4 k).2.2.1 ∈ gW) (hfin : (TJ4 k).2.2.2 = false) (hd : parseFieldDescriptor (TJ4 k).2.2.1 = some ty) (hn : narrow ty v = v) (hf : fits ty v = true) (hdg : decode cc pc = .ok (.putfield index, 3)) {x' : BS} (hx : okX x') (e1 : xB x' = xB x) (e2 : ([.ref (xB x), .int (iN 0), .int (xM x), .int (iN (xN x : Int))] : List Value).set k v = [.ref (xB x'), .int (iN 0), .int (xM x'), .int (iN (xN x' : Int))]) (e3 : bByt tA (xC x) (xT x) = bByt tA (xC x') (xT x'))
    (kk : ∀ H1 locs1, GB D tA sz bs bb0 x' s H1 locs1 → W p l e R s m args below meth c H1 locs1 cells slots Q (F0 m (pc + 3) ls rest)) : W p l e R s m args below meth c H locs cells slots Q (F0 m pc ls (v :: .ref bs :: rest)) := by
  obtain ⟨c1, c2⟩ := c13
  refine va_put (ref := (TJ4 k).1) X.1 X.2.1 X.2.2.2.2 c2 tyJ4 tyJ4_ok nmJ4 X.2.2.2.1 hz.2.1 g.1 g.dd g.2.2.2 0 rfl c1 k hk (X.2.2.2.2 _ hl) (fun _ h => h) hfin hd hn hf (by simpa using hk) hdg (fun H1 locs1 hP hD hS => kk H1 locs1 ?_)
  rw [e2] at hP
  have e : (BW tA bs x).set 0 (bs, .inr (13, [.ref (xB x'), .int (iN 0), .int (xM x'), .int (iN (xN x' : Int))])) = BW tA bs x' := by
    show [_, (xB x, bByt tA (xC x) (xT x))] = _
    rw [e3, ← e1]
    rfl
  rw [e] at hP
  exact ⟨hP, by rw [e1]; exact g.2.1, hx, hS⟩
/-- the bytes' length -/
theorem b_len (X : BX p s m args c own nL cc) (hz : BZ D tA n0 adr adV sz bs bb0 s) (g : GB D tA sz bs bb0 x s H locs) (hdg : decode cc pc = .ok (.arraylength, 1))
    (kk : W p l e R s m args below meth c H locs cells slots Q (F0 m (pc + 1) ls (.int (iN (xC x : Int)) :: rest))) : W p l e R s m args below meth c H locs cells slots Q (F0 m pc ls (.ref (xB x) :: rest)) :=
  va_alen X.1 X.2.1 hz.2.1 g.1 1 0 rfl rfl (by show Int32.ofNat (xC x) = _; simp [iN, Int32.ofInt_eq_ofNat]) hdg kk
theorem b_ald {i : Int} (X : BX p s m args c own nL cc) (hz : BZ D tA n0 adr adV sz bs bb0 s) (g : GB D tA sz bs bb0 x s H locs) (h0 : 0 ≤ i) (h1 : i < xC x) (hdg : decode cc pc = .ok (.baload, 1))
    (kk : W p l e R s m args below meth c H locs cells slots Q (F0 m (pc + 1) ls (.int (iN (xT x i.toNat)) :: rest))) : W p l e R s m args below meth c H locs cells slots Q (F0 m pc ls (.int (iN i) :: .ref (xB x) :: rest)) := by
  have hC : xC x ≤ 142 := by rcases g.2.2.1.1 with h | h | h | h <;> omega
  refine va_bald X.1 X.2.1 hz.2.1 g.1 1 0 rfl rfl (iN_in h0 (n := xC x) h1 (by omega)) hdg ?_
  rw [iN_clamp h0 (by omega)]
  exact kk
theorem b_nar {v : Int} (h0 : 0 ≤ v) (h1 : v ≤ 127) : vp_nar .byte (iN v) = iN v := by
  obtain ⟨n, rfl⟩ : ∃ n : Nat, v = n := ⟨v.toNat, by omega⟩
  have hn : n < 128 := by omega
  exact (show ∀ n : Nat, n < 128 → vp_nar .byte (iN (n : Int)) = iN (n : Int) by decide +kernel) n hn
theorem b_ast {i v : Int} (X : BX p s m args c own nL cc) (hz : BZ D tA n0 adr adV sz bs bb0 s) (g : GB D tA sz bs bb0 x s H locs) (h0 : 0 ≤ i) (h1 : i < xC x) (v0 : 0 ≤ v) (v1 : v ≤ 127) (hdg : decode cc pc = .ok (.bastore, 1))
    (kk : ∀ H1 locs1, GB D tA sz bs bb0 (xB x, xC x, xN x, xM x, tset (xT x) i.toNat v) s H1 locs1 → W p l e R s m args below meth c H1 locs1 cells slots Q (F0 m (pc + 1) ls rest)) : W p l e R s m args below meth c H locs cells slots Q (F0 m pc ls (.int (iN v) :: .int (iN i) :: .ref (xB x) :: rest)) := by
  have hC : xC x ≤ 142 := by rcases g.2.2.1.1 with h | h | h | h <;> omega
  refine va_bast X.1 X.2.1 hz.2.1 g.1 g.dd g.2.2.2 1 0 rfl rfl (iN_in h0 (n := xC x) h1 (by omega)) hdg (fun H1 locs1 hP hD hS => kk H1 locs1 ⟨?_, g.2.1, ⟨g.2.2.1.1, g.2.2.1.2.1, tOk_set g.2.2.1.2.2 v0 v1⟩, hS⟩)
  rw [iN_clamp h0 (by omega), b_nar v0 v1, upd_tset] at hP
  exact hP
/-- the end of a method, by what it answers -/
theorem b_zret {v : Int32} {ty : FieldType} {mc ms : Nat} {Rr : Option Value → BS → Prop} (X : BX p s m args c own nL cc) (hret : meth.sig.returnType = some ty) (hnar : narrow ty (.int v) = .int v) (hlk : meth.locks = false) (g : GB D tA sz bs bb0 x s H locs) (hR : Rr (some (.int v)) x) (hc : cells ≤ mc) (hs : slots ≤ ms) (hdg : decode cc pc = .ok (.ireturn, 1)) :
    W p l e R s m args below meth c H locs cells slots (MQ below (BPost D tA sz bs bb0 Rr) args s mc ms (bA bs bb0 sz)) (F0 m pc ls [.int v]) :=
  W.widen hc hs (W.zret X.1 X.2.1 hret hnar (fun t ht _ => ⟨⟨_, x, rfl, hR, g.2.2.1, by rw [ht]; exact g.1, g.2.1⟩, va_S.F g.2.2.2 ht⟩) g.2.2.2.2.2 hdg hlk)
theorem b_vret {mc ms : Nat} {Rr : Option Value → BS → Prop} (X : BX p s m args c own nL cc) (hret : meth.sig.returnType = none) (hlk : meth.locks = false) (g : GB D tA sz bs bb0 x s H locs) (hR : Rr none x) (hc : cells ≤ mc) (hs : slots ≤ ms) (hdg : decode cc pc = .ok (.return_, 1)) :
    W p l e R s m args below meth c H locs cells slots (MQ below (BPost D tA sz bs bb0 Rr) args s mc ms (bA bs bb0 sz)) (F0 m pc ls []) :=
  W.widen hc hs (W.vret X.1 X.2.1 hret (fun t ht _ => ⟨⟨none, x, rfl, hR, g.2.2.1, by rw [ht]; exact g.1, g.2.1⟩, va_S.F g.2.2.2 ht⟩) g.2.2.2.2.2 hdg hlk)
theorem b_aret {a : Nat} {nm : String} {mc ms : Nat} {Rr : Option Value → BS → Prop} (X : BX p s m args c own nL cc) (hret : meth.sig.returnType = some (.object nm)) (hlk : meth.locks = false) (g : GB D tA sz bs bb0 x s H locs) (hR : Rr (some (.ref a)) x) (hc : cells ≤ mc) (hs : slots ≤ ms) (hdg : decode cc pc = .ok (.areturn, 1)) :
    W p l e R s m args below meth c H locs cells slots (MQ below (BPost D tA sz bs bb0 Rr) args s mc ms (bA bs bb0 sz)) (F0 m pc ls [.ref a]) :=
  W.widen hc hs (W.aret X.1 X.2.1 hret (Or.inl ⟨nm, rfl⟩) (Or.inr ⟨_, rfl⟩) (fun t ht _ => ⟨⟨_, x, rfl, hR, g.2.2.1, by rw [ht]; exact g.1, g.2.1⟩, va_S.F g.2.2.2 ht⟩) g.2.2.2.2.2 hdg hlk)
/-- behind a call -/
theorem b_after {mc ms : Nat} {a : Array Value} {Rr : Option Value → BS → Prop} (hz : s.heap.size = sz) (g : GB D tA sz bs bb0 x s H locs) (hr : va_Run p l e R s m args below meth c H locs cells slots mc ms (F0 m pc ls st0) rest (BPost D tA H.size bs (xB x) Rr a) (bA bs (xB x) H.size))
    (kk : ∀ v x' H1 locs1, Rr v x' → GB D tA sz bs bb0 x' s H1 locs1 → W p l e R s m args below meth c H1 locs1 (cells + mc) (slots + ms) Q (F0 m (pc + 3) ls (v.toList ++ rest))) : W p l e R s m args below meth c H locs cells slots Q (F0 m pc ls st0) := by
  intro T hT X
  obtain ⟨v, st₀, t, T', L2, h0, X', hL2, e1, e2, ⟨⟨_, x', hv, hR, hx, hP, hb, hbA⟩, hsz, hkk⟩, st⟩ := hr T hT X
  rw [h0] at hsz hkk
  cases hv
  have hH : sz ≤ H.size := by rw [← hz]; exact g.2.2.2.1
  have hsub : ∀ q, bA bs (xB x) H.size q → bA bs bb0 sz q := by
    rintro q (rfl | rfl | hq)
    · exact .inl rfl
    · exact g.2.1.2
    · exact .inr (.inr (Nat.le_trans hH hq))
  have K := kk v x' T'.heap (locs ++ L2) hR ⟨by rw [e1]; exact hP, ⟨hb, hsub _ hbA⟩, hx, vS_app g.2.2.2 (by rw [e1]; exact hsz) (fun q h1 h2 => by rw [e1]; exact hkk q h1 h2) hsub (fun q hq => hsub _ (hL2 q hq))⟩
  obtain ⟨t2, a1, b1⟩ := K T' rfl X'
  exact ⟨t2, st t2 a1, b1⟩
theorem b_pre (hz : BZ D tA n0 adr adV sz bs bb0 s) (g : GB D tA sz bs bb0 x s H locs) {U : State} (hU : U.heap = H) (hW : s.WarmedH U.vm) : BPre D tA n0 adr adV H.size bs x U := by
  have hS := hz.S g
  refine ⟨⟨by rw [hU], ?_, hz.1.2.2.1, bA_n0 hz _ g.2.1.2, g.2.1.1⟩, g.2.2.1, by rw [hU]; exact g.1, ?_⟩
  · have := hS.1; have := hz.1.1; have := hz.1.2.1; omega
  · rw [hU]
    exact BK.moved hW.alike (hz.2.kept hS.2.1)
/-- the words of a call -/
def BWd (kind : Nat) (own : String) (idx : Nat) (y : MethodName) (cc : ByteArray) (nL : Nat) (ret : Option FieldType) (rc : String) (n : Nat) : Prop :=
  ((Cond.methodLink own idx y ∈ gW ∧ Cond.initialized y.cls ∈ gW ∧ Cond.code y cc nL ret ∈ gW) ∧ (y.cls ≠ "java/lang/invoke/MethodHandle" ∧ y.cls ≠ "java/lang/invoke/VarHandle" ∧ (parseMethodDescriptor y.desc).map (fun d => d.parameters.length) = some n) ∧ nL ≤ 20) ∧
  match kind with
  | 0 => Cond.instanceMethod y ∈ gW ∧ Cond.selects rc y y ∈ gW
  | 1 => Cond.static y ∈ gW
  | 3 => Cond.instanceMethod y ∈ gW ∧ Cond.privateMethod y ∈ pvL ∧ y.cls = "java/lang/AbstractStringBuilder"
  | _ => (Cond.instanceMethod y ∈ gW ∧ Cond.sameMethod y.cls y.cls y.name y.desc ∈ gW ∧ Cond.superclass own y.cls ∈ gW) ∧ y.name ≠ "<init>"
set_option maxRecDepth 100000 in
theorem sel_lat : Cond.selects RJ4 ⟨"java/lang/AbstractStringBuilder", "isLatin1", "()Z"⟩ ⟨"java/lang/AbstractStringBuilder", "isLatin1", "()Z"⟩ ∈ gW := gW_at (i := 1460) rfl rfl
theorem code_good {y : MethodName} {cc : ByteArray} {nL : Nat} {ret : Option FieldType} (hcode : Cond.code y cc nL ret ∈ gW) : GoodIn gW (Cond.code y cc nL ret :: gW) := by
  intro w hw
  rcases List.mem_cons.mp hw with rfl | hw
  · exact ⟨hcode, good_of_word (List.mem_filter.mp hcode).2⟩
  · exact ⟨hw, good_of_word (List.mem_filter.mp hw).2⟩
section CALLS
variable {y : MethodName} {cc2 : ByteArray} {nL2 fr lo mc ms idx n : Nat} {ret : Option FieldType} {av : BS → (Nat → Nat) → List Value} {P : BS → Prop} {Rr : BS → Option Value → BS → Prop} {As : List Value}
/-- a virtual call; its receiver's class is rc -/
theorem b_callV {rcv : Nat} {rc : String} (X : BX p s m args c own nL cc) (hz : BZ D tA n0 adr adV sz bs bb0 s) (g : GB D tA sz bs bb0 x s H locs) (hC : BC y cc2 nL2 ret fr lo mc ms bs av P Rr) (hP : P x) (hw : BWd 0 own idx y cc2 nL2 ret rc n) (hav : av x adr = .ref rcv :: As) (hn : As.length = n) (hrc : ∃ cellB : Cell, H[rcv]? = some cellB ∧ cellB.vm.isStatics = false ∧ s.vm.findClass rc = some cellB.cls) (hls : ls.size = nL) (hR : fr + 1 ≤ R.frames ∧ 39 + lo ≤ R.locals) (hf : cells + mc ≤ R.cells ∧ slots + ms ≤ R.slots) (hrest : (rest.map fun v => v.category).sum ≤ 8) (hst : st0 = As.reverse ++ .ref rcv :: rest) (hdg : decode cc pc = .ok (.invokevirtual idx, 3))
    (kk : ∀ v x' H1 locs1, Rr x v x' → GB D tA sz bs bb0 x' s H1 locs1 → W p l e R s m args below meth c H1 locs1 (cells + mc) (slots + ms) Q (F0 m (pc + 3) ls (v.toList ++ rest))) : W p l e R s m args below meth c H locs cells slots Q (F0 m pc ls st0) := by
  obtain ⟨⟨⟨w1, w2, w3⟩, w4, w5⟩, w6, w7⟩ := hw
  have hts := X.2.2.2.2
  refine b_after (a := (.ref rcv :: As).toArray) hz.1.1 g ?_ kk
  exact va_runV (own := own) (Ts := gW) (nL := nL) (As := As) (C := rc) (n := n) (bytes := cc2) (maxL := nL2) (ret := ret) X (hC l D tA n0 adr adV H.size x hP) ⟨callB_of n hts (code_good w3) rfl rfl rfl (hts _ w2) (hts _ w1) w4 ⟨hR.1, by show 8 + (nL2 + 11) + lo ≤ R.locals; omega⟩, hts _ w6, hts _ w7⟩
    ⟨BPre.blind, hrc, fun U hU hW => ⟨by rw [hav], b_pre hz g hU hW⟩⟩ rfl hn hls hst (lv_room (pc := pc) (ls := ls) (rest := st0) hrest) hdg hf
/-- a private method is its own choice -/
theorem b_selP {y : MethodName} {bts : ByteArray} (hts : ∀ w ∈ gW, w.before args s = true) (hPV : PV s) (hinst : Cond.instanceMethod y ∈ gW) (hpr : Cond.privateMethod y ∈ pvL) (hc : y.cls = "java/lang/AbstractStringBuilder") (hd : y.cls ≠ "java/lang/invoke/MethodHandle" ∧ y.cls ≠ "java/lang/invoke/VarHandle") : (Cond.selects RJ4 y y).before args s = true := by
  obtain ⟨c2, r2, m2, q1, q2, q3, q4, kP, hkP, hkPi⟩ := Cond.selects_spec (hts _ sel_lat)
  obtain ⟨mk, methM, hnamed, hmethM, -, -⟩ := Cond.instanceMethod_spec (hts _ hinst)
  have hfound : s.methodFound? y.cls y.name y.desc = some mk := State.methodFound?_of_named hnamed hd
  have hcls : mk.cls = m2.cls := by
    have h1 := findClass_of_methodNamed hnamed
    have h2 := findClass_of_methodNamed q3
    rw [hc] at h1
    exact Option.some.inj (h1.symm.trans h2)
  have hsel : selectMethod {} s.vm c2 mk = .method mk := selectMethod_private hmethM (Cond.privateMethod_at (hPV _ hpr) mk methM hnamed hmethM)
  simp only [Cond.before, Cond.holds, Cond.value, q1, hfound, hnamed, hsel, hcls, hkP]
  simp
  exact hkPi
/-- a private method of the builder -/
theorem b_callP (X : BX p s m args c own nL cc) (hz : BZ D tA n0 adr adV sz bs bb0 s) (g : GB D tA sz bs bb0 x s H locs) (hC : BC y cc2 nL2 ret fr lo mc ms bs av P Rr) (hP : P x) (hw : BWd 3 own idx y cc2 nL2 ret own n) (hav : av x adr = .ref bs :: As) (hn : As.length = n) (hls : ls.size = nL) (hR : fr + 1 ≤ R.frames ∧ 39 + lo ≤ R.locals) (hf : cells + mc ≤ R.cells ∧ slots + ms ≤ R.slots) (hrest : (rest.map fun v => v.category).sum ≤ 8) (hst : st0 = As.reverse ++ .ref bs :: rest) (hdg : decode cc pc = .ok (.invokevirtual idx, 3))
    (kk : ∀ v x' H1 locs1, Rr x v x' → GB D tA sz bs bb0 x' s H1 locs1 → W p l e R s m args below meth c H1 locs1 (cells + mc) (slots + ms) Q (F0 m (pc + 3) ls (v.toList ++ rest))) : W p l e R s m args below meth c H locs cells slots Q (F0 m pc ls st0) := by
  obtain ⟨⟨⟨w1, w2, w3⟩, w4, w5⟩, w6, w7, w8⟩ := hw
  have hts := X.2.2.2.2
  refine b_after (a := (.ref bs :: As).toArray) hz.1.1 g ?_ kk
  exact va_runV (own := own) (Ts := gW) (nL := nL) (As := As) (C := RJ4) (n := n) (bytes := cc2) (maxL := nL2) (ret := ret) X (hC l D tA n0 adr adV H.size x hP) ⟨callB_of n hts (code_good w3) rfl rfl rfl (hts _ w2) (hts _ w1) w4 ⟨hR.1, by show 8 + (nL2 + 11) + lo ≤ R.locals; omega⟩, hts _ w6, b_selP (bts := cc) hts hz.2.2.2.2 w6 w7 w8 ⟨w4.1, w4.2.1⟩⟩
    ⟨BPre.blind, va_recv hz.2.1 g.1 c13.1 (q0 := 0) rfl, fun U hU hW => ⟨by rw [hav], b_pre hz g hU hW⟩⟩ rfl hn hls hst (lv_room (pc := pc) (ls := ls) (rest := st0) hrest) hdg hf
theorem b_callS (X : BX p s m args c own nL cc) (hz : BZ D tA n0 adr adV sz bs bb0 s) (g : GB D tA sz bs bb0 x s H locs) (hC : BC y cc2 nL2 ret fr lo mc ms bs av P Rr) (hP : P x) (hw : BWd 1 own idx y cc2 nL2 ret own n) (hav : av x adr = As) (hn : As.length = n) (hls : ls.size = nL) (hR : fr + 1 ≤ R.frames ∧ 39 + lo ≤ R.locals) (hf : cells + mc ≤ R.cells ∧ slots + ms ≤ R.slots) (hrest : (rest.map fun v => v.category).sum ≤ 8) (hst : st0 = As.reverse ++ rest) (hdg : decode cc pc = .ok (.invokestatic idx, 3))
    (kk : ∀ v x' H1 locs1, Rr x v x' → GB D tA sz bs bb0 x' s H1 locs1 → W p l e R s m args below meth c H1 locs1 (cells + mc) (slots + ms) Q (F0 m (pc + 3) ls (v.toList ++ rest))) : W p l e R s m args below meth c H locs cells slots Q (F0 m pc ls st0) := by
  obtain ⟨⟨⟨w1, w2, w3⟩, w4, w5⟩, w6⟩ := hw
  have hts := X.2.2.2.2
  refine b_after (a := As.toArray) hz.1.1 g ?_ kk
  exact va_runS (own := own) (Ts := gW) (nL := nL) (As := As) (n := n) (bytes := cc2) (maxL := nL2) (ret := ret) X (hC l D tA n0 adr adV H.size x hP) ⟨callB_of n hts (code_good w3) rfl rfl rfl (hts _ w2) (hts _ w1) w4 ⟨hR.1, by show 8 + (nL2 + 11) + lo ≤ R.locals; omega⟩, hts _ w6⟩
    ⟨BPre.blind, fun U hU hW => ⟨by rw [hav], b_pre hz g hU hW⟩⟩ rfl hn hls hst (lv_room (pc := pc) (ls := ls) (rest := st0) hrest) hdg hf
/-- the builder's receiver -/
theorem b_recv (hz : BZ D tA n0 adr adV sz bs bb0 s) (g : GB D tA sz bs bb0 x s H locs) : ∃ cellB : Cell, H[bs]? = some cellB ∧ cellB.vm.isStatics = false ∧ s.vm.findClass RJ4 = some cellB.cls := va_recv hz.2.1 g.1 c13.1 (q0 := 0) rfl
/-- super.m(..) -/
theorem b_callU (X : BX p s m args c own nL cc) (hz : BZ D tA n0 adr adV sz bs bb0 s) (g : GB D tA sz bs bb0 x s H locs) (hC : BC y cc2 nL2 ret fr lo mc ms bs av P Rr) (hP : P x) (hw : BWd 2 own idx y cc2 nL2 ret own n) (hav : av x adr = .ref bs :: As) (hn : As.length = n) (hls : ls.size = nL) (hR : fr + 1 ≤ R.frames ∧ 39 + lo ≤ R.locals) (hf : cells + mc ≤ R.cells ∧ slots + ms ≤ R.slots) (hrest : (rest.map fun v => v.category).sum ≤ 8) (hst : st0 = As.reverse ++ .ref bs :: rest) (hdg : decode cc pc = .ok (.invokespecial idx, 3))
    (kk : ∀ v x' H1 locs1, Rr x v x' → GB D tA sz bs bb0 x' s H1 locs1 → W p l e R s m args below meth c H1 locs1 (cells + mc) (slots + ms) Q (F0 m (pc + 3) ls (v.toList ++ rest))) : W p l e R s m args below meth c H locs cells slots Q (F0 m pc ls st0) := by
  obtain ⟨⟨⟨w1, w2, w3⟩, w4, w5⟩, ⟨w6, w7, w8⟩, w9⟩ := hw
  have hts := X.2.2.2.2
  have hgood : GoodIn gW (va_wsSU own idx y (Cond.code y cc2 nL2 ret :: gW)) := by
    intro w hw
    simp only [va_wsSU, List.mem_append, List.mem_cons, List.not_mem_nil, or_false] at hw
    have gg : w ∈ gW := by
      rcases hw with (rfl | rfl | rfl | rfl | rfl) | (rfl | hw)
      · exact w1
      · exact w7
      · exact w8
      · exact w6
      · exact w2
      · exact w3
      · exact hw
    exact ⟨gg, good_of_word (List.mem_filter.mp gg).2⟩
  obtain ⟨hS, hfc, kC, hkC, hkind⟩ := hz.2.1.1 13 _ c13.1
  refine b_after (a := (.ref bs :: As).toArray) hz.1.1 g ?_ kk
  exact va_runSU (own := own) (C := RJ4) (Ts := gW) (nL := nL) (As := As) (n := n) (bytes := cc2) (maxL := nL2) (ret := ret) ⟨hfc, kC, hkC, hkind⟩ X (hC l D tA n0 adr adV H.size x hP) (va_cwSU n hts hgood rfl rfl rfl ⟨w9, w4.2.2⟩ ⟨hR.1, by show 8 + (nL2 + 11) + lo ≤ R.locals; omega⟩)
    ⟨BPre.blind, b_recv hz g, fun U hU hW => ⟨by rw [hav], b_pre hz g hU hW⟩⟩ rfl hn hls hst (lv_room (pc := pc) (ls := ls) (rest := st0) hrest) hdg hf
end CALLS
theorem bc_of {y : MethodName} {ret : Option FieldType} {fr lo mc ms : Nat} {av : BS → (Nat → Nat) → List Value} {P : BS → Prop} {Rr : BS → Option Value → BS → Prop} (hpl : plainName y.cls = true) (hy : y.cls = own) (hnl : ∀ (x : BS) (adr : Nat → Nat), (lg_sl (av x adr)).length ≤ nL)
    (h : ∀ (p : Program) (l : Launch) (e : Env) (s : State) (m : MethodId) (args : Array Value) (below : List Frame) (meth : Method) (c : Code) (D : va_G) (tA : Nat → ClassId) (n0 : Nat) (adr adV : Nat → Nat) (sz : Nat) (x : BS) (ls : Array Slot), P x → BX p s m args c own nL cc → BZ D tA n0 adr adV sz bs (xB x) s → GB D tA sz bs (xB x) x s s.heap [] → meth.sig.returnType = ret → meth.locks = false → lv_has ls nL (lv_args 0 (av x adr)) →
      W p l e { frames := fr, cells := mc, slots := ms, locals := lo } s m args below meth c s.heap [] 0 0 (MQ below (BPost D tA sz bs (xB x) (Rr x)) args s mc ms (bA bs (xB x) sz)) (F0 m 0 ls [])) : BC y cc nL ret fr lo mc ms bs av P Rr := by
  intro l D tA n0 adr adV sz x hPx
  refine Met.ofW (cc := cc) (maxL := nL) (ret := ret) hpl rfl ?_
  intro p e s m args below meth c s₁ B hml hv
  obtain ⟨rfl, ⟨h1, h2, h3, h4, h5⟩, h6, h7, h8⟩ := hv
  have hts := atoms_spec (ws := Cond.code y cc nL ret :: gW) B.pre
  have hown : s.vm.findClass own = some m.cls := by rw [← hy]; exact findClass_of_methodNamed B.named
  rw [lg_entry_eq]
  have hl := lv_entry (av x adr) (n := nL) (hnl x adr)
  exact h p l e s m _ below meth c D tA n0 adr adV sz x _ hPx ⟨B.exec, B.bytes, hml, hown, fun w hw => hts w (List.mem_cons_of_mem _ hw)⟩ ⟨⟨h1, h2, h3, h4⟩, h8⟩ ⟨h7, ⟨h5, .inr (.inl rfl)⟩, h6, va_S.rf⟩ B.returns B.notSynchronized hl
end B1

/-! THE BUILDER, 2: the methods that read (printed by wip/whole/g7b.py). -/
theorem sh_r0 {x : Int} : iN x >>> (iN 0 &&& 31) = iN x := by
  have h : (iN 0 &&& 31) = 0 := by decide
  rw [h]
  exact Int32.shiftRight_zero
theorem sh_l0 {x : Int} : iN x <<< (iN 0 &&& 31) = iN x := by
  have h : (iN 0 &&& 31) = 0 := by decide
  rw [h]
  exact Int32.shiftLeft_zero
theorem nn_ne {x : Int32} (h : ¬ x = x) : False := h rfl
section B2
variable {bs : Nat}
def yb_lat : MethodName := ⟨"java/lang/AbstractStringBuilder", "isLatin1", "()Z"⟩
set_option maxRecDepth 100000 in
theorem cs_lat : Cond.fieldLink "java/lang/AbstractStringBuilder" 18 "java/lang/String" "COMPACT_STRINGS" "Z" ∈ gW := gW_at (i := 483) rfl rfl
set_option maxRecDepth 100000 in
theorem db_lat_0 : decode prog_16_method_68_code 0 = .ok (.getstatic 18, 3) := rfl
set_option maxRecDepth 100000 in
theorem db_lat_3 : decode prog_16_method_68_code 3 = .ok (.ifCond .eq 14, 3) := rfl
set_option maxRecDepth 100000 in
theorem db_lat_6 : decode prog_16_method_68_code 6 = .ok (.aload_n 0, 1) := rfl
set_option maxRecDepth 100000 in
theorem fb_0 : Cond.fieldLink "java/lang/AbstractStringBuilder" 22 (TJ4 1).1 (TJ4 1).2.1 (TJ4 1).2.2.1 ∈ gW := gW_at (i := 493) rfl rfl
set_option maxRecDepth 100000 in
theorem db_lat_7 : decode prog_16_method_68_code 7 = .ok (.getfield 22, 3) := rfl
set_option maxRecDepth 100000 in
theorem db_lat_10 : decode prog_16_method_68_code 10 = .ok (.ifCond .ne 7, 3) := rfl
set_option maxRecDepth 100000 in
theorem db_lat_13 : decode prog_16_method_68_code 13 = .ok (.iconst 1, 1) := rfl
set_option maxRecDepth 100000 in
theorem db_lat_14 : decode prog_16_method_68_code 14 = .ok (.goto 4, 3) := rfl
set_option maxRecDepth 100000 in
theorem db_lat_18 : decode prog_16_method_68_code 18 = .ok (.ireturn, 1) := rfl
set_option maxHeartbeats 4000000 in
set_option maxRecDepth 100000 in
theorem b_latin : BC yb_lat prog_16_method_68_code 1 (some .boolean) 0 0 0 0 bs (fun x adr => [.ref bs]) (fun x => True) (fun x v x' => v = some (.int 1) ∧ x' = x) := by
  refine bc_of (by decide) rfl (fun _ _ => by simp [lg_sl, Value.category]) ?_
  intro p l e s m args below meth c D tA n0 adr adV sz x ls hP X hz g hret hlk hl
  have hl : lv_has ls 1 [(0, .ref bs)] := hl
  refine va_gets (ref := "java/lang/String") X.1 X.2.1 hz.2.2.1.2.1.1 (hz.S g) X.2.2.2.1 (X.2.2.2.2 _ cs_lat) (fun _ h => h) db_lat_0 ?_
  refine lv_if_eq (tgt := 17) X.1 X.2.1 db_lat_3 (by decide) (fun h => absurd h (by decide)) (fun _ => ?_)
  refine lv_aload_n (i := 0) (x := bs) X.1 X.2.1 db_lat_6 rfl (lv_at hl 0 rfl) ?_
  refine b_get (k := 1) X hz g (by decide) fb_0 rfl db_lat_7 ?_
  refine lv_if_ne (tgt := 17) X.1 X.2.1 db_lat_10 (by decide) (fun h => absurd h (fun z => z rfl)) (fun _ => ?_)
  refine lv_iconst (v := iN 1) X.1 X.2.1 db_lat_13 (by decide) ?_
  refine lv_goto (tgt := 18) X.1 X.2.1 db_lat_14 (by decide) ?_
  exact b_zret (v := iN 1) X hret (by first | rfl | exact vp_nar_int _) hlk g ⟨rfl, rfl⟩ (by omega) (by omega) db_lat_18
def yb_len : MethodName := ⟨"java/lang/AbstractStringBuilder", "length", "()I"⟩
set_option maxRecDepth 100000 in
theorem db_len_0 : decode prog_16_method_6_code 0 = .ok (.aload_n 0, 1) := rfl
set_option maxRecDepth 100000 in
theorem fb_1 : Cond.fieldLink "java/lang/AbstractStringBuilder" 79 (TJ4 3).1 (TJ4 3).2.1 (TJ4 3).2.2.1 ∈ gW := gW_at (i := 496) rfl rfl
set_option maxRecDepth 100000 in
theorem db_len_1 : decode prog_16_method_6_code 1 = .ok (.getfield 79, 3) := rfl
set_option maxRecDepth 100000 in
theorem db_len_4 : decode prog_16_method_6_code 4 = .ok (.ireturn, 1) := rfl
set_option maxHeartbeats 4000000 in
set_option maxRecDepth 100000 in
theorem b_length : BC yb_len prog_16_method_6_code 1 (some .int) 0 0 0 0 bs (fun x adr => [.ref bs]) (fun x => True) (fun x v x' => v = some (.int (iN (xN x : Int))) ∧ x' = x) := by
  refine bc_of (by decide) rfl (fun _ _ => by simp [lg_sl, Value.category]) ?_
  intro p l e s m args below meth c D tA n0 adr adV sz x ls hP X hz g hret hlk hl
  have hl : lv_has ls 1 [(0, .ref bs)] := hl
  refine lv_aload_n (i := 0) (x := bs) X.1 X.2.1 db_len_0 rfl (lv_at hl 0 rfl) ?_
  refine b_get (k := 3) X hz g (by decide) fb_1 rfl db_len_1 ?_
  exact b_zret (v := iN (xN x : Int)) X hret (by first | rfl | exact vp_nar_int _) hlk g ⟨rfl, rfl⟩ (by omega) (by omega) db_len_4
def yb_nl : MethodName := ⟨"jdk/internal/util/ArraysSupport", "newLength", "(III)I"⟩
set_option maxRecDepth 100000 in
theorem db_nl_0 : decode prog_37_method_27_code 0 = .ok (.iload_n 0, 1) := rfl
set_option maxRecDepth 100000 in
theorem db_nl_1 : decode prog_37_method_27_code 1 = .ok (.iload_n 1, 1) := rfl
set_option maxRecDepth 100000 in
theorem db_nl_2 : decode prog_37_method_27_code 2 = .ok (.iload_n 2, 1) := rfl
set_option maxRecDepth 100000 in
theorem mb_max_ArraysSupport : Cond.methodLink "jdk/internal/util/ArraysSupport" 194 Lib.Math.max.name ∈ gW ∧ Cond.static Lib.Math.max.name ∈ gW ∧ Cond.initialized "java/lang/Math" ∈ gW ∧ Cond.code Lib.Math.max.name Lib.Math.max.code 2 (some .int) ∈ gW := ⟨gW_at (i := 1437) rfl rfl, gW_at (i := 289) rfl rfl, gW_at (i := 109) rfl rfl, gW_at (i := 290) rfl rfl⟩
set_option maxRecDepth 100000 in
theorem db_nl_3 : decode prog_37_method_27_code 3 = .ok (.invokestatic 194, 3) := rfl
set_option maxRecDepth 100000 in
theorem db_nl_6 : decode prog_37_method_27_code 6 = .ok (.iadd, 1) := rfl
set_option maxRecDepth 100000 in
theorem db_nl_7 : decode prog_37_method_27_code 7 = .ok (.istore_n 3, 1) := rfl
set_option maxRecDepth 100000 in
theorem db_nl_8 : decode prog_37_method_27_code 8 = .ok (.iconst 0, 1) := rfl
set_option maxRecDepth 100000 in
theorem db_nl_9 : decode prog_37_method_27_code 9 = .ok (.iload_n 3, 1) := rfl
set_option maxRecDepth 100000 in
theorem db_nl_10 : decode prog_37_method_27_code 10 = .ok (.if_icmp .ge 11, 3) := rfl
set_option maxRecDepth 100000 in
theorem db_nl_13 : decode prog_37_method_27_code 13 = .ok (.iload_n 3, 1) := rfl
set_option maxRecDepth 100000 in
theorem kb_0 : Cond.constant "jdk/internal/util/ArraysSupport" 200 (iN 2147483639) ∈ gW := gW_at (i := 1438) rfl rfl
set_option maxRecDepth 100000 in
theorem db_nl_14 : decode prog_37_method_27_code 14 = .ok (.ldc 200, 2) := rfl
set_option maxRecDepth 100000 in
theorem db_nl_16 : decode prog_37_method_27_code 16 = .ok (.if_icmp .gt 5, 3) := rfl
set_option maxRecDepth 100000 in
theorem db_nl_19 : decode prog_37_method_27_code 19 = .ok (.iload_n 3, 1) := rfl
set_option maxRecDepth 100000 in
theorem db_nl_20 : decode prog_37_method_27_code 20 = .ok (.ireturn, 1) := rfl
set_option maxHeartbeats 4000000 in
set_option maxRecDepth 100000 in
theorem b_newLength {a b d : Int} (hb : inR b) (hd : inR d) (h0 : 0 < a + max b d) (h1 : a + max b d < 2147483600) : BC yb_nl prog_37_method_27_code 4 (some .int) 1 40 0 0 bs (fun x adr => [.int (iN a), .int (iN b), .int (iN d)]) (fun x => True) (fun x v x' => v = some (.int (iN (a + max b d))) ∧ x' = x) := by
  refine bc_of (by decide) rfl (fun _ _ => by simp [lg_sl, Value.category]) ?_
  intro p l e s m args below meth c D tA n0 adr adV sz x ls hP X hz g hret hlk hl
  have hl : lv_has ls 4 [(0, .int (iN a)), (1, .int (iN b)), (2, .int (iN d))] := hl
  have h3 : inR (a + max b d) := ⟨by omega, by omega⟩
  refine lv_iload_n (i := 0) (x := iN a) X.1 X.2.1 db_nl_0 rfl (lv_at hl 0 rfl) ?_
  refine lv_iload_n (i := 1) (x := iN b) X.1 X.2.1 db_nl_1 rfl (lv_at hl 1 rfl) ?_
  refine lv_iload_n (i := 2) (x := iN d) X.1 X.2.1 db_nl_2 rfl (lv_at hl 2 rfl) ?_
  refine va_mmax X.1 X.2.1 (by rw [X.2.2.1, hl.1]) X.2.2.2.1 (X.2.2.2.2 _ mb_max_ArraysSupport.1) (X.2.2.2.2 _ mb_max_ArraysSupport.2.1) (X.2.2.2.2 _ mb_max_ArraysSupport.2.2.1) (X.2.2.2.2 _ mb_max_ArraysSupport.2.2.2) (by decide) (by simp [Value.category]) (Nat.zero_le _) (Nat.zero_le _) db_nl_3 ?_
  rw [iN_max hb hd]
  refine lv_iadd X.1 X.2.1 db_nl_6 ?_
  rw [iN_add]
  refine lv_istore_n (i := 3) (lv' := [(3, .int (iN (a + (max b d)))), (0, .int (iN a)), (1, .int (iN b)), (2, .int (iN d))]) X.1 X.2.1 db_nl_7 rfl hl (by decide) rfl (fun ls1 hl1 => ?_)
  refine lv_iconst (v := iN 0) X.1 X.2.1 db_nl_8 (by decide) ?_
  refine lv_iload_n (i := 3) (x := iN (a + (max b d))) X.1 X.2.1 db_nl_9 rfl (lv_at hl1 0 rfl) ?_
  refine lv_icmp_ge (tgt := 21) X.1 X.2.1 db_nl_10 (by decide) (fun h => absurd h (fun z => by
    have := (iN_le h3 inR_0).mp z
    omega)) (fun _ => ?_)
  refine lv_iload_n (i := 3) (x := iN (a + (max b d))) X.1 X.2.1 db_nl_13 rfl (lv_at hl1 0 rfl) ?_
  refine lv_ldc (own := "jdk/internal/util/ArraysSupport") X.1 X.2.1 X.2.2.2.1 (X.2.2.2.2 _ kb_0) db_nl_14 ?_
  refine lv_icmp_gt (tgt := 21) X.1 X.2.1 db_nl_16 (by decide) (fun h => absurd h (fun z => by
    have := (iN_lt (x := 2147483639) ⟨by omega, by omega⟩ h3).mp z
    omega)) (fun _ => ?_)
  refine lv_iload_n (i := 3) (x := iN (a + (max b d))) X.1 X.2.1 db_nl_19 rfl (lv_at hl1 0 rfl) ?_
  exact b_zret (v := iN (a + max b d)) X hret (by first | rfl | exact vp_nar_int _) hlk g ⟨rfl, rfl⟩ (by omega) (by omega) db_nl_20
def yb_nc : MethodName := ⟨"java/lang/AbstractStringBuilder", "newCapacity", "(I)I"⟩
set_option maxRecDepth 100000 in
theorem db_nc_0 : decode prog_16_method_10_code 0 = .ok (.aload_n 0, 1) := rfl
set_option maxRecDepth 100000 in
theorem fb_2 : Cond.fieldLink "java/lang/AbstractStringBuilder" 15 (TJ4 0).1 (TJ4 0).2.1 (TJ4 0).2.2.1 ∈ gW := gW_at (i := 492) rfl rfl
set_option maxRecDepth 100000 in
theorem db_nc_1 : decode prog_16_method_10_code 1 = .ok (.getfield 15, 3) := rfl
set_option maxRecDepth 100000 in
theorem db_nc_4 : decode prog_16_method_10_code 4 = .ok (.arraylength, 1) := rfl
set_option maxRecDepth 100000 in
theorem db_nc_5 : decode prog_16_method_10_code 5 = .ok (.istore_n 2, 1) := rfl
set_option maxRecDepth 100000 in
theorem db_nc_6 : decode prog_16_method_10_code 6 = .ok (.iload_n 1, 1) := rfl
set_option maxRecDepth 100000 in
theorem db_nc_7 : decode prog_16_method_10_code 7 = .ok (.aload_n 0, 1) := rfl
set_option maxRecDepth 100000 in
theorem db_nc_8 : decode prog_16_method_10_code 8 = .ok (.getfield 22, 3) := rfl
set_option maxRecDepth 100000 in
theorem db_nc_11 : decode prog_16_method_10_code 11 = .ok (.ishl, 1) := rfl
set_option maxRecDepth 100000 in
theorem db_nc_12 : decode prog_16_method_10_code 12 = .ok (.istore_n 3, 1) := rfl
set_option maxRecDepth 100000 in
theorem db_nc_13 : decode prog_16_method_10_code 13 = .ok (.iload_n 3, 1) := rfl
set_option maxRecDepth 100000 in
theorem db_nc_14 : decode prog_16_method_10_code 14 = .ok (.iload_n 2, 1) := rfl
set_option maxRecDepth 100000 in
theorem db_nc_15 : decode prog_16_method_10_code 15 = .ok (.isub, 1) := rfl
set_option maxRecDepth 100000 in
theorem db_nc_16 : decode prog_16_method_10_code 16 = .ok (.istore 4, 2) := rfl
set_option maxRecDepth 100000 in
theorem db_nc_18 : decode prog_16_method_10_code 18 = .ok (.iload_n 2, 1) := rfl
set_option maxRecDepth 100000 in
theorem db_nc_19 : decode prog_16_method_10_code 19 = .ok (.iload 4, 2) := rfl
set_option maxRecDepth 100000 in
theorem db_nc_21 : decode prog_16_method_10_code 21 = .ok (.iload_n 2, 1) := rfl
set_option maxRecDepth 100000 in
theorem db_nc_22 : decode prog_16_method_10_code 22 = .ok (.iconst 2, 1) := rfl
set_option maxRecDepth 100000 in
theorem db_nc_23 : decode prog_16_method_10_code 23 = .ok (.aload_n 0, 1) := rfl
set_option maxRecDepth 100000 in
theorem db_nc_24 : decode prog_16_method_10_code 24 = .ok (.getfield 22, 3) := rfl
set_option maxRecDepth 100000 in
theorem db_nc_27 : decode prog_16_method_10_code 27 = .ok (.ishl, 1) := rfl
set_option maxRecDepth 100000 in
theorem db_nc_28 : decode prog_16_method_10_code 28 = .ok (.iadd, 1) := rfl
set_option maxRecDepth 100000 in
theorem wb_0 : BWd 1 "java/lang/AbstractStringBuilder" 114 yb_nl prog_37_method_27_code 4 (some .int) "java/lang/AbstractStringBuilder" 3 := ⟨⟨⟨gW_at (i := 1434) rfl rfl, gW_at (i := 130) rfl rfl, gW_at (i := 1436) rfl rfl⟩, ⟨by decide, by decide, rfl⟩, by decide⟩, gW_at (i := 1435) rfl rfl⟩
set_option maxRecDepth 100000 in
theorem db_nc_29 : decode prog_16_method_10_code 29 = .ok (.invokestatic 114, 3) := rfl
set_option maxRecDepth 100000 in
theorem db_nc_32 : decode prog_16_method_10_code 32 = .ok (.istore 5, 2) := rfl
set_option maxRecDepth 100000 in
theorem db_nc_34 : decode prog_16_method_10_code 34 = .ok (.iload 5, 2) := rfl
set_option maxRecDepth 100000 in
theorem kb_1 : Cond.constant "java/lang/AbstractStringBuilder" 39 (iN 2147483647) ∈ gW := gW_at (i := 1442) rfl rfl
set_option maxRecDepth 100000 in
theorem db_nc_36 : decode prog_16_method_10_code 36 = .ok (.ldc 39, 2) := rfl
set_option maxRecDepth 100000 in
theorem db_nc_38 : decode prog_16_method_10_code 38 = .ok (.if_icmp .ne 13, 3) := rfl
set_option maxRecDepth 100000 in
theorem db_nc_51 : decode prog_16_method_10_code 51 = .ok (.iload 5, 2) := rfl
set_option maxRecDepth 100000 in
theorem db_nc_53 : decode prog_16_method_10_code 53 = .ok (.aload_n 0, 1) := rfl
set_option maxRecDepth 100000 in
theorem db_nc_54 : decode prog_16_method_10_code 54 = .ok (.getfield 22, 3) := rfl
set_option maxRecDepth 100000 in
theorem db_nc_57 : decode prog_16_method_10_code 57 = .ok (.ishr, 1) := rfl
set_option maxRecDepth 100000 in
theorem db_nc_58 : decode prog_16_method_10_code 58 = .ok (.ireturn, 1) := rfl
set_option maxHeartbeats 4000000 in
set_option maxRecDepth 100000 in
theorem b_newCapacity {a : Int} (h0 : 0 ≤ a) (h1 : a ≤ 1000) : BC yb_nc prog_16_method_10_code 6 (some .int) 2 140 0 0 bs (fun x adr => [.ref bs, .int (iN a)]) (fun x => True) (fun x v x' => v = some (.int (iN ((xC x : Int) + max (a - (xC x : Int)) ((xC x : Int) + 2)))) ∧ x' = x) := by
  refine bc_of (by decide) rfl (fun _ _ => by simp [lg_sl, Value.category]) ?_
  intro p l e s m args below meth c D tA n0 adr adV sz x ls hP X hz g hret hlk hl
  have hl : lv_has ls 6 [(0, .ref bs), (1, .int (iN a))] := hl
  have hC : xC x ≤ 142 := by rcases g.2.2.1.1 with h | h | h | h <;> omega
  refine lv_aload_n (i := 0) (x := bs) X.1 X.2.1 db_nc_0 rfl (lv_at hl 0 rfl) ?_
  refine b_get (k := 0) X hz g (by decide) fb_2 rfl db_nc_1 ?_
  refine b_len X hz g db_nc_4 ?_
  refine lv_istore_n (i := 2) (lv' := [(2, .int (iN (xC x : Int))), (0, .ref bs), (1, .int (iN a))]) X.1 X.2.1 db_nc_5 rfl hl (by decide) rfl (fun ls1 hl1 => ?_)
  refine lv_iload_n (i := 1) (x := iN a) X.1 X.2.1 db_nc_6 rfl (lv_at hl1 2 rfl) ?_
  refine lv_aload_n (i := 0) (x := bs) X.1 X.2.1 db_nc_7 rfl (lv_at hl1 1 rfl) ?_
  refine b_get (k := 1) X hz g (by decide) fb_0 rfl db_nc_8 ?_
  refine lv_ishl X.1 X.2.1 db_nc_11 ?_
  rw [sh_l0]
  refine lv_istore_n (i := 3) (lv' := [(3, .int (iN a)), (2, .int (iN (xC x : Int))), (0, .ref bs), (1, .int (iN a))]) X.1 X.2.1 db_nc_12 rfl hl1 (by decide) rfl (fun ls2 hl2 => ?_)
  refine lv_iload_n (i := 3) (x := iN a) X.1 X.2.1 db_nc_13 rfl (lv_at hl2 0 rfl) ?_
  refine lv_iload_n (i := 2) (x := iN (xC x : Int)) X.1 X.2.1 db_nc_14 rfl (lv_at hl2 1 rfl) ?_
  refine lv_isub X.1 X.2.1 db_nc_15 ?_
  rw [iN_sub]
  refine lv_istore (lv' := [(4, .int (iN (a - (xC x : Int)))), (3, .int (iN a)), (2, .int (iN (xC x : Int))), (0, .ref bs), (1, .int (iN a))]) X.1 X.2.1 db_nc_16 hl2 (by decide) rfl (fun ls3 hl3 => ?_)
  refine lv_iload_n (i := 2) (x := iN (xC x : Int)) X.1 X.2.1 db_nc_18 rfl (lv_at hl3 2 rfl) ?_
  refine lv_iload (x := iN (a - (xC x : Int))) X.1 X.2.1 db_nc_19 (lv_at hl3 0 rfl) ?_
  refine lv_iload_n (i := 2) (x := iN (xC x : Int)) X.1 X.2.1 db_nc_21 rfl (lv_at hl3 2 rfl) ?_
  refine lv_iconst (v := iN 2) X.1 X.2.1 db_nc_22 (by decide) ?_
  refine lv_aload_n (i := 0) (x := bs) X.1 X.2.1 db_nc_23 rfl (lv_at hl3 3 rfl) ?_
  refine b_get (k := 1) X hz g (by decide) fb_0 rfl db_nc_24 ?_
  refine lv_ishl X.1 X.2.1 db_nc_27 ?_
  rw [sh_l0]
  refine lv_iadd X.1 X.2.1 db_nc_28 ?_
  rw [iN_add]
  refine b_callS (As := [.int (iN (xC x : Int)), .int (iN (a - (xC x : Int))), .int (iN ((xC x : Int) + 2))]) (rest := []) X hz g (b_newLength ⟨by omega, by omega⟩ ⟨by omega, by omega⟩ (by omega) (by omega)) trivial wb_0 rfl rfl hl3.1 ⟨by decide, by decide⟩ ⟨by decide, by decide⟩ (by simp [Value.category]) rfl db_nc_29 (fun v x1 H1 lc1 hv1 g1 => ?_)
  obtain ⟨rfl, rfl⟩ := hv1
  refine lv_istore (lv' := [(5, .int (iN ((xC x1 : Int) + max (a - (xC x1 : Int)) ((xC x1 : Int) + 2)))), (4, .int (iN (a - (xC x1 : Int)))), (3, .int (iN a)), (2, .int (iN (xC x1 : Int))), (0, .ref bs), (1, .int (iN a))]) X.1 X.2.1 db_nc_32 hl3 (by decide) rfl (fun ls4 hl4 => ?_)
  refine lv_iload (x := iN ((xC x1 : Int) + max (a - (xC x1 : Int)) ((xC x1 : Int) + 2))) X.1 X.2.1 db_nc_34 (lv_at hl4 0 rfl) ?_
  refine lv_ldc (own := "java/lang/AbstractStringBuilder") X.1 X.2.1 X.2.2.2.1 (X.2.2.2.2 _ kb_1) db_nc_36 ?_
  refine lv_icmp_ne (tgt := 51) X.1 X.2.1 db_nc_38 (by decide) (fun _ => ?_) (fun h => absurd h (fun z => by
    have := (iN_eq (y := 2147483647) ⟨by omega, by omega⟩ ⟨by omega, by omega⟩).mp z
    omega))
  refine lv_iload (x := iN ((xC x1 : Int) + max (a - (xC x1 : Int)) ((xC x1 : Int) + 2))) X.1 X.2.1 db_nc_51 (lv_at hl4 0 rfl) ?_
  refine lv_aload_n (i := 0) (x := bs) X.1 X.2.1 db_nc_53 rfl (lv_at hl4 4 rfl) ?_
  refine b_get (k := 1) X hz g1 (by decide) fb_0 rfl db_nc_54 ?_
  refine lv_ishr X.1 X.2.1 db_nc_57 ?_
  rw [sh_r0]
  exact b_zret (v := iN ((xC x1 : Int) + max (a - (xC x1 : Int)) ((xC x1 : Int) + 2))) X hret (by first | rfl | exact vp_nar_int _) hlk g1 ⟨rfl, rfl⟩ (by omega) (by omega) db_nc_58
def yb_ce : MethodName := ⟨"java/lang/StringLatin1", "canEncode", "(C)Z"⟩
set_option maxRecDepth 100000 in
theorem db_ce_0 : decode prog_29_method_3_code 0 = .ok (.iload_n 0, 1) := rfl
set_option maxRecDepth 100000 in
theorem db_ce_1 : decode prog_29_method_3_code 1 = .ok (.sipush 255, 3) := rfl
set_option maxRecDepth 100000 in
theorem db_ce_4 : decode prog_29_method_3_code 4 = .ok (.if_icmp .gt 7, 3) := rfl
set_option maxRecDepth 100000 in
theorem db_ce_7 : decode prog_29_method_3_code 7 = .ok (.iconst 1, 1) := rfl
set_option maxRecDepth 100000 in
theorem db_ce_8 : decode prog_29_method_3_code 8 = .ok (.goto 4, 3) := rfl
set_option maxRecDepth 100000 in
theorem db_ce_12 : decode prog_29_method_3_code 12 = .ok (.ireturn, 1) := rfl
set_option maxHeartbeats 4000000 in
set_option maxRecDepth 100000 in
theorem b_canEncode {a : Int} (h0 : 0 ≤ a) (h1 : a ≤ 127) : BC yb_ce prog_29_method_3_code 1 (some .boolean) 0 0 0 0 bs (fun x adr => [.int (iN a)]) (fun x => True) (fun x v x' => v = some (.int (iN 1)) ∧ x' = x) := by
  refine bc_of (by decide) rfl (fun _ _ => by simp [lg_sl, Value.category]) ?_
  intro p l e s m args below meth c D tA n0 adr adV sz x ls hP X hz g hret hlk hl
  have hl : lv_has ls 1 [(0, .int (iN a))] := hl
  refine lv_iload_n (i := 0) (x := iN a) X.1 X.2.1 db_ce_0 rfl (lv_at hl 0 rfl) ?_
  refine lv_sipush (v := iN 255) X.1 X.2.1 db_ce_1 (by decide) ?_
  refine lv_icmp_gt (tgt := 11) X.1 X.2.1 db_ce_4 (by decide) (fun h => absurd h (fun z => by
    have := (iN_lt (x := 255) ⟨by omega, by omega⟩ ⟨by omega, by omega⟩).mp z
    omega)) (fun _ => ?_)
  refine lv_iconst (v := iN 1) X.1 X.2.1 db_ce_7 (by decide) ?_
  refine lv_goto (tgt := 12) X.1 X.2.1 db_ce_8 (by decide) ?_
  exact b_zret (v := iN 1) X hret (by first | rfl | exact vp_nar_int _) hlk g ⟨rfl, rfl⟩ (by omega) (by omega) db_ce_12
end B2

/-! THE BUILDER, 3: the methods that write (printed by wip/whole/g7b.py). -/
section B2
variable {bs : Nat}
def yb_cp : MethodName := ⟨"java/util/Arrays", "copyOf", "([BI)[B"⟩
set_option maxRecDepth 100000 in
theorem db_cp_0 : decode prog_35_method_121_code 0 = .ok (.iload_n 1, 1) := rfl
set_option maxRecDepth 100000 in
theorem db_cp_1 : decode prog_35_method_121_code 1 = .ok (.aload_n 0, 1) := rfl
set_option maxRecDepth 100000 in
theorem db_cp_2 : decode prog_35_method_121_code 2 = .ok (.arraylength, 1) := rfl
set_option maxRecDepth 100000 in
theorem db_cp_3 : decode prog_35_method_121_code 3 = .ok (.if_icmp .ne 11, 3) := rfl
set_option maxRecDepth 100000 in
theorem db_cp_14 : decode prog_35_method_121_code 14 = .ok (.iload_n 1, 1) := rfl
set_option maxRecDepth 100000 in
theorem cp_new : Cond.arrayClass .byte ∈ gW := gW_at (i := 506) rfl rfl
set_option maxRecDepth 100000 in
theorem db_cp_15 : decode prog_35_method_121_code 15 = .ok (.newarray .byte, 2) := rfl
set_option maxRecDepth 100000 in
theorem db_cp_17 : decode prog_35_method_121_code 17 = .ok (.astore_n 2, 1) := rfl
set_option maxRecDepth 100000 in
theorem db_cp_18 : decode prog_35_method_121_code 18 = .ok (.aload_n 0, 1) := rfl
set_option maxRecDepth 100000 in
theorem db_cp_19 : decode prog_35_method_121_code 19 = .ok (.iconst 0, 1) := rfl
set_option maxRecDepth 100000 in
theorem db_cp_20 : decode prog_35_method_121_code 20 = .ok (.aload_n 2, 1) := rfl
set_option maxRecDepth 100000 in
theorem db_cp_21 : decode prog_35_method_121_code 21 = .ok (.iconst 0, 1) := rfl
set_option maxRecDepth 100000 in
theorem db_cp_22 : decode prog_35_method_121_code 22 = .ok (.aload_n 0, 1) := rfl
set_option maxRecDepth 100000 in
theorem db_cp_23 : decode prog_35_method_121_code 23 = .ok (.arraylength, 1) := rfl
set_option maxRecDepth 100000 in
theorem db_cp_24 : decode prog_35_method_121_code 24 = .ok (.iload_n 1, 1) := rfl
set_option maxRecDepth 100000 in
theorem mb_min_Arrays : Cond.methodLink "java/util/Arrays" 304 Lib.Math.min.name ∈ gW ∧ Cond.static Lib.Math.min.name ∈ gW ∧ Cond.initialized "java/lang/Math" ∈ gW ∧ Cond.code Lib.Math.min.name Lib.Math.min.code 2 (some .int) ∈ gW := ⟨gW_at (i := 1453) rfl rfl, gW_at (i := 286) rfl rfl, gW_at (i := 109) rfl rfl, gW_at (i := 287) rfl rfl⟩
set_option maxRecDepth 100000 in
theorem db_cp_25 : decode prog_35_method_121_code 25 = .ok (.invokestatic 304, 3) := rfl
set_option maxRecDepth 100000 in
theorem ac_cp : Cond.methodLink "java/util/Arrays" 150 arraycopyName ∈ gW ∧ Cond.native arraycopyName ∈ gW ∧ Cond.static arraycopyName ∈ gW ∧ Cond.initialized "java/lang/System" ∈ gW := ⟨gW_at (i := 1454) rfl rfl, gW_at (i := 1456) rfl rfl, gW_at (i := 1455) rfl rfl, gW_at (i := 132) rfl rfl⟩
set_option maxRecDepth 100000 in
theorem db_cp_28 : decode prog_35_method_121_code 28 = .ok (.invokestatic 150, 3) := rfl
set_option maxRecDepth 100000 in
theorem db_cp_31 : decode prog_35_method_121_code 31 = .ok (.aload_n 2, 1) := rfl
set_option maxRecDepth 100000 in
theorem db_cp_32 : decode prog_35_method_121_code 32 = .ok (.areturn, 1) := rfl
theorem fits_T {T : Nat → Int} (h : tOk T) (j : Nat) : fits .byte (.int (iN (T j))) = true := by
  obtain ⟨h0, h1⟩ := h j
  obtain ⟨n, hn⟩ : ∃ n : Nat, T j = n := ⟨(T j).toNat, by omega⟩
  rw [hn]
  have h2 : n < 128 := by omega
  exact (show ∀ n : Nat, n < 128 → fits .byte (.int (iN (n : Int))) = true by decide +kernel) n h2
/-- Arrays.copyOf: a new row of n bytes, the old ones ahead -/
def CpPost (D : va_G) (tA : Nat → ClassId) (sz bs : Nat) (x : BS) (n : Nat) : Array Value → State → Outcome → State → Prop := fun _ st oc t =>
  (∃ (q : Nat) (T' : Nat → Int), oc = .returned (some (.ref q)) ∧ (sz ≤ q ∧ q ≠ bs ∧ q ≠ xB x) ∧ (∀ j, j < xC x → T' j = xT x j) ∧ tOk T' ∧ va_P D clA (BW tA bs x) t.heap ∧ va_at D clA (q, bByt tA n T') t.heap) ∧ va_F (bA bs (xB x) sz) st t
set_option maxHeartbeats 4000000 in
set_option maxRecDepth 100000 in
theorem b_copyOf {l : Launch} {D : va_G} {tA : Nat → ClassId} {n0 : Nat} {adr adV : Nat → Nat} {sz n : Nat} {x : BS} (hn : xC x < n) (hn2 : n ≤ 142) : Met l yb_cp (Cond.code yb_cp prog_35_method_121_code 3 (some (.array .byte)) :: gW) { frames := 2, cells := 1, slots := 142, locals := 100 } (va_Pc [.ref (xB x), .int (iN (n : Int))] (BPre D tA n0 adr adV sz bs x)) (CpPost D tA sz bs x n) 1 142 (bA bs (xB x) sz) := by
  refine Met.ofW (cc := prog_35_method_121_code) (maxL := 3) (ret := (some (.array .byte))) (by decide) rfl ?_
  intro p e s m args below meth c s₁ B hml hv
  obtain ⟨rfl, ⟨h1, h2, h3, h4, h5⟩, h6, h7, h8⟩ := hv
  have hts := atoms_spec (ws := Cond.code yb_cp prog_35_method_121_code 3 (some (.array .byte)) :: gW) B.pre
  have hown : s.vm.findClass "java/util/Arrays" = some m.cls := findClass_of_methodNamed B.named
  rw [lg_entry_eq]
  have hl := lv_entry ([.ref (xB x), .int (iN (n : Int))] : List Value) (n := 3) (by simp [lg_sl, Value.category])
  generalize (lg_sl ([.ref (xB x), .int (iN (n : Int))] : List Value) ++ List.replicate (3 - (lg_sl ([.ref (xB x), .int (iN (n : Int))] : List Value)).length) Slot.unset).toArray = ls at hl ⊢
  have hl : lv_has ls 3 [(0, .ref (xB x)), (1, .int (iN (n : Int)))] := hl
  have X : BX p s m #[.ref (xB x), .int (iN (n : Int))] c "java/util/Arrays" 3 prog_35_method_121_code := ⟨B.exec, B.bytes, hml, hown, fun w hw => hts w (List.mem_cons_of_mem _ hw)⟩
  have hz : BZ D tA n0 adr adV sz bs (xB x) s := ⟨⟨h1, h2, h3, h4⟩, h8⟩
  have g : GB D tA sz bs (xB x) x s s.heap [] := ⟨h7, ⟨h5, .inr (.inl rfl)⟩, h6, va_S.rf⟩
  have hret := B.returns
  have hlk := B.notSynchronized
  refine lv_iload_n (i := 1) (x := iN (n : Int)) X.1 X.2.1 db_cp_0 rfl (lv_at hl 1 rfl) ?_
  refine lv_aload_n (i := 0) (x := (xB x)) X.1 X.2.1 db_cp_1 rfl (lv_at hl 0 rfl) ?_
  refine b_len X hz g db_cp_2 ?_
  refine lv_icmp_ne (tgt := 14) X.1 X.2.1 db_cp_3 (by decide) (fun _ => ?_) (fun h => absurd h (fun z => by
    have := (iN_eq (x := (n : Int)) (y := (xC x : Int)) ⟨by omega, by omega⟩ ⟨by omega, by omega⟩).mp z
    omega))
  refine lv_iload_n (i := 1) (x := iN (n : Int)) X.1 X.2.1 db_cp_14 rfl (lv_at hl 1 rfl) ?_
  have hq : s.heap.size = sz := hz.1.1
  have hbs : bs < s.heap.size := (g.1 0 _ rfl).lt
  have hbb : xB x < s.heap.size := (g.1 1 _ rfl).lt
  refine va_newaK (atype := .byte) X.1 X.2.1 (X.2.2.2.2 _ cp_new) (g := F0 m 15 ls [.int (iN (n : Int))]) rfl db_cp_15 rfl (fun z => by
    have := (iN_lt (x := (n : Int)) (y := 0) ⟨by omega, by omega⟩ inR_0).mp z
    omega) (show (iN (n : Int)).toNatClampNeg = n by rw [iN_clamp (by omega) (by omega)]; omega) (by show n * 1 ≤ _; omega) (by decide) (by show 0 + n ≤ 142; omega) rfl (fun H1 cA e1 z1 o1 _ hN => ?_)
  have hA : cA = tA 4 := Option.some.inj (hN.symm.trans (hz.2.1.2 0 _ rfl).2)
  subst hA
  generalize hH : s.heap.size = q at *
  have hP1 : va_P D clA [(bs, bObj (xB x) (xN x) (xM x)), (xB x, bByt tA (xC x) (xT x)), (q, .inl (tA 4, (n, .inl (fun _ => (0 : Int32)))))] H1 := by
    intro k y hy
    match k, hy with
    | 0, hy => exact (g.1 0 _ hy).kept (by cases hy; exact o1 _ hbs)
    | 1, hy => exact (g.1 1 _ hy).kept (by cases hy; exact o1 _ hbb)
    | 2, hy => cases hy; exact e1
  have hS1 : va_S (bA bs (xB x) sz) s.heap H1 [] := ⟨by omega, fun y h1 h2 => o1 y (by omega), fun y h => by cases h⟩
  have hb1 : bs ≠ xB x := g.2.1.1
  have hD1 : va_D (bA bs (xB x) sz) [(bs, bObj (xB x) (xN x) (xM x)), (xB x, bByt tA (xC x) (xT x)), (q, .inl (tA 4, (n, .inl (fun _ => (0 : Int32)))))] := by
    refine ⟨fun i j y z hi hj h => ?_, fun k y hy => ?_⟩
    · match i, hi, j, hj with
      | 0, hi, 0, hj => rfl
      | 1, hi, 1, hj => rfl
      | 2, hi, 2, hj => rfl
      | 0, hi, 1, hj => cases hi; cases hj; exact absurd h hb1
      | 1, hi, 0, hj => cases hi; cases hj; exact absurd h.symm hb1
      | 0, hi, 2, hj => cases hi; cases hj; have h : bs = q := h; omega
      | 2, hi, 0, hj => cases hi; cases hj; have h : q = bs := h; omega
      | 1, hi, 2, hj => cases hi; cases hj; have h : xB x = q := h; omega
      | 2, hi, 1, hj => cases hi; cases hj; have h : q = xB x := h; omega
    · match k, hy with
      | 0, hy => cases hy; exact .inl rfl
      | 1, hy => cases hy; exact .inr (.inl rfl)
      | 2, hy => cases hy; exact .inr (.inr (by show sz ≤ q; omega))
  show W p l e _ s m #[.ref (xB x), .int (iN (n : Int))] below meth c H1 [] (0 + 1) (0 + n) _ (F0 m 17 ls [.ref q])
  refine lv_astore_n (i := 2) (lv' := [(2, .ref q), (0, .ref (xB x)), (1, .int (iN (n : Int)))]) X.1 X.2.1 db_cp_17 rfl hl (by decide) rfl (fun ls1 hl1 => ?_)
  refine lv_aload_n (i := 0) (x := (xB x)) X.1 X.2.1 db_cp_18 rfl (lv_at hl1 1 rfl) ?_
  refine lv_iconst (v := iN 0) X.1 X.2.1 db_cp_19 (by decide) ?_
  refine lv_aload_n (i := 2) (x := q) X.1 X.2.1 db_cp_20 rfl (lv_at hl1 0 rfl) ?_
  refine lv_iconst (v := iN 0) X.1 X.2.1 db_cp_21 (by decide) ?_
  refine lv_aload_n (i := 0) (x := (xB x)) X.1 X.2.1 db_cp_22 rfl (lv_at hl1 1 rfl) ?_
  refine va_alen X.1 X.2.1 hz.2.1 hP1 1 0 rfl rfl (v := iN (xC x : Int)) (by show Int32.ofNat (xC x) = _; simp [iN, Int32.ofInt_eq_ofNat]) db_cp_23 ?_
  refine lv_iload_n (i := 1) (x := iN (n : Int)) X.1 X.2.1 db_cp_24 rfl (lv_at hl1 2 rfl) ?_
  refine va_mmin X.1 X.2.1 (by rw [X.2.2.1, hl1.1]) X.2.2.2.1 (X.2.2.2.2 _ mb_min_Arrays.1) (X.2.2.2.2 _ mb_min_Arrays.2.1) (X.2.2.2.2 _ mb_min_Arrays.2.2.1) (X.2.2.2.2 _ mb_min_Arrays.2.2.2) (by decide) (by simp [Value.category]; decide) (by decide) (by show 0 + n ≤ 142; omega) db_cp_25 ?_
  rw [iN_min (x := (xC x : Int)) (y := (n : Int)) ⟨by omega, by omega⟩ ⟨by omega, by omega⟩, show min (xC x : Int) (n : Int) = (xC x : Int) by omega]
  have c0 : (iN 0).toNatClampNeg = 0 := by decide
  have cC : (iN (xC x : Int)).toNatClampNeg = xC x := by rw [iN_clamp (by omega) (by omega)]; omega
  have nC : ¬ iN (xC x : Int) < 0 := fun z => by
    have := (iN_lt (x := (xC x : Int)) (y := 0) ⟨by omega, by omega⟩ inR_0).mp z
    omega
  refine va_copyi X.1 X.2.1 (by rw [X.2.2.1, hl1.1]) X.2.2.2.1 (X.2.2.2.2 _ ac_cp.1) (X.2.2.2.2 _ ac_cp.2.1) (X.2.2.2.2 _ ac_cp.2.2.1) (X.2.2.2.2 _ ac_cp.2.2.2) hz.2.1 hP1 hD1 hS1 1 2 0 0 rfl rfl rfl rfl rfl (by decide) (by decide) nC (by rw [c0, cC]; omega) (by rw [c0, cC]; omega) (fun i hi => fits_T g.2.2.1.2.2 _) (by decide) (by simp [Value.category]; decide) db_cp_28 (fun H2 lc2 hP2 hD2 hS2 => ?_)
  rw [c0, cC] at hP2
  refine lv_aload_n (i := 2) (x := q) X.1 X.2.1 db_cp_31 rfl (lv_at hl1 0 rfl) ?_
  have hT : va_cpy (fun j => iN (xT x j)) (fun _ => (0 : Int32)) 0 0 (xC x) = fun j => iN ((fun j => if j < xC x then xT x j else 0) j) := by
    funext j
    show (if 0 ≤ j ∧ j < 0 + xC x then iN (xT x (0 + (j - 0))) else (0 : Int32)) = iN (if j < xC x then xT x j else 0)
    by_cases h : j < xC x
    · rw [if_pos ⟨Nat.zero_le _, by omega⟩, if_pos h, Nat.zero_add, Nat.sub_zero]
    · rw [if_neg (by omega), if_neg h]
      rfl
  rw [hT] at hP2
  refine W.widen (by decide) (by omega) (W.aret X.1 X.2.1 hret (Or.inr ⟨_, rfl⟩) (Or.inr ⟨_, rfl⟩) (fun t ht _ => ⟨⟨q, fun j => if j < xC x then xT x j else 0, rfl, ⟨by omega, by omega, by omega⟩, fun j hj => if_pos hj, fun j => ?_, ?_, ?_⟩, va_S.F hS2 ht⟩) hS2.2.2 db_cp_32 hlk)
  · show 0 ≤ (if j < xC x then xT x j else 0) ∧ (if j < xC x then xT x j else 0) ≤ 127
    split
    · exact g.2.2.1.2.2 j
    · omega
  · rw [ht]
    intro k y hy
    match k, hy with
    | 0, hy => exact hP2 0 _ hy
    | 1, hy => exact hP2 1 _ hy
  · rw [ht]
    exact hP2 2 _ rfl
end B2
section B3
variable {p : Program} {l : Launch} {e : Env} {R : Room} {s : State} {m : MethodId} {args : Array Value} {below : List Frame} {meth : Method} {c : Code} {Q : State → Prop}
variable {D : va_G} {tA : Nat → ClassId} {n0 sz bs bb0 n : Nat} {adr adV : Nat → Nat} {x : BS} {H : Heap} {locs : List Loc} {cells slots pc : Nat} {ls : Array Slot} {rest st0 : List Value} {nL : Nat} {cc : ByteArray} {own : String}
theorem b_callCp {idx : Nat} (X : BX p s m args c own nL cc) (hz : BZ D tA n0 adr adV sz bs bb0 s) (g : GB D tA sz bs bb0 x s H locs) (hw : BWd 1 own idx yb_cp prog_35_method_121_code 3 (some (.array .byte)) own 2) (hn : xC x < n) (hn2 : n ≤ 142) (hls : ls.size = nL) (hR : 3 ≤ R.frames ∧ 139 ≤ R.locals) (hf : cells + 1 ≤ R.cells ∧ slots + 142 ≤ R.slots) (hrest : (rest.map fun v => v.category).sum ≤ 8) (hst : st0 = .int (iN (n : Int)) :: .ref (xB x) :: rest) (hdg : decode cc pc = .ok (.invokestatic idx, 3))
    (kk : ∀ q T' H1 locs1, (q ≠ bs ∧ q ≠ xB x ∧ bA bs bb0 sz q) → (∀ j, j < xC x → T' j = xT x j) → tOk T' → GB D tA sz bs bb0 x s H1 locs1 → va_at D clA (q, bByt tA n T') H1 → W p l e R s m args below meth c H1 locs1 (cells + 1) (slots + 142) Q (F0 m (pc + 3) ls (.ref q :: rest))) : W p l e R s m args below meth c H locs cells slots Q (F0 m pc ls st0) := by
  obtain ⟨⟨⟨w1, w2, w3⟩, w4, w5⟩, w6⟩ := hw
  have hts := X.2.2.2.2
  have hr := va_runS (p := p) (l := l) (e := e) (R := R) (s := s) (m := m) (args := args) (below := below) (meth := meth) (c := c) (H := H) (locs := locs) (cells := cells) (slots := slots) (g := F0 m pc ls st0) (rest := rest) (own := own) (Ts := gW) (nL := nL) (As := [.ref (xB x), .int (iN (n : Int))]) (n := 2) (bytes := prog_35_method_121_code) (maxL := 3) (ret := some (.array .byte)) X (b_copyOf (l := l) (D := D) (tA := tA) (n0 := n0) (adr := adr) (adV := adV) (sz := H.size) (bs := bs) hn hn2) ⟨callB_of 2 hts (code_good w3) rfl rfl rfl (hts _ w2) (hts _ w1) w4 ⟨hR.1, by show 8 + (3 + 11) + 100 ≤ R.locals; omega⟩, hts _ w6⟩
    ⟨BPre.blind, fun U hU hW => ⟨rfl, b_pre hz g hU hW⟩⟩ rfl rfl hls hst (lv_room (pc := pc) (ls := ls) (rest := st0) hrest) hdg hf
  intro T hT XX
  obtain ⟨v, st₀, t, T', L2, h0, X', hL2, e1, e2, ⟨⟨q, T2, hv, ⟨q1, q2, q3⟩, hT2, hok, hP, hat⟩, hsz, hkk⟩, st⟩ := hr T hT XX
  rw [h0] at hsz hkk
  cases hv
  have hH : sz ≤ H.size := by rw [← hz.1.1]; exact g.2.2.2.1
  have hsub : ∀ y, bA bs (xB x) H.size y → bA bs bb0 sz y := by
    rintro y (rfl | rfl | hy)
    · exact .inl rfl
    · exact g.2.1.2
    · exact .inr (.inr (Nat.le_trans hH hy))
  have K := kk q T2 T'.heap (locs ++ L2) ⟨q2, q3, .inr (.inr (Nat.le_trans hH q1))⟩ hT2 hok ⟨by rw [e1]; exact hP, g.2.1, g.2.2.1, vS_app g.2.2.2 (by rw [e1]; exact hsz) (fun y h1 h2 => by rw [e1]; exact hkk y h1 h2) hsub (fun y hy => hsub _ (hL2 y hy))⟩ (by rw [e1]; exact hat)
  obtain ⟨t2, a1, b1⟩ := K T' rfl X'
  exact ⟨t2, st t2 a1, b1⟩
/-- the new bytes put in -/
theorem b_putV {index q : Nat} {T' : Nat → Int} (X : BX p s m args c own nL cc) (hz : BZ D tA n0 adr adV sz bs bb0 s) (g : GB D tA sz bs bb0 x s H locs) (hq : q ≠ bs ∧ q ≠ xB x ∧ bA bs bb0 sz q) (hok : tOk T') (hC : cOk n) (hN : xN x ≤ n) (hat : va_at D clA (q, bByt tA n T') H) (hl : Cond.fieldLink own index (TJ4 0).1 (TJ4 0).2.1 (TJ4 0).2.2.1 ∈ gW) (hdg : decode cc pc = .ok (.putfield index, 3))
    (kk : ∀ H1 locs1, GB D tA sz bs bb0 (q, n, xN x, xM x, T') s H1 locs1 → W p l e R s m args below meth c H1 locs1 cells slots Q (F0 m (pc + 3) ls rest)) : W p l e R s m args below meth c H locs cells slots Q (F0 m pc ls (.ref q :: .ref bs :: rest)) := by
  obtain ⟨c1, c2⟩ := c13
  have hP : va_P D clA [(bs, bObj (xB x) (xN x) (xM x)), (q, bByt tA n T')] H := by
    intro k y hy
    match k, hy with
    | 0, hy => exact g.1 0 _ hy
    | 1, hy => cases hy; exact hat
  have hD : va_D (bA bs bb0 sz) [(bs, bObj (xB x) (xN x) (xM x)), (q, bByt tA n T')] := by
    refine ⟨fun i j y z hi hj h => ?_, fun k y hy => ?_⟩
    · match i, hi, j, hj with
      | 0, hi, 0, hj => rfl
      | 1, hi, 1, hj => rfl
      | 0, hi, 1, hj => cases hi; cases hj; exact absurd h.symm hq.1
      | 1, hi, 0, hj => cases hi; cases hj; exact absurd h hq.1
    · match k, hy with
      | 0, hy => cases hy; exact .inl rfl
      | 1, hy => cases hy; exact hq.2.2
  refine va_put (ref := (TJ4 0).1) (ty := .array .byte) X.1 X.2.1 X.2.2.2.2 c2 tyJ4 tyJ4_ok nmJ4 X.2.2.2.1 hz.2.1 hP hD g.2.2.2 0 rfl c1 0 (by decide) (X.2.2.2.2 _ hl) (fun _ h => h) rfl rfl rfl rfl (by simp) hdg (fun H1 locs1 hP1 hD1 hS1 => kk H1 locs1 ⟨hP1, ⟨fun h => hq.1 h.symm, hq.2.2⟩, ⟨hC, hN, hok⟩, hS1⟩)
end B3
section B2
variable {bs : Nat}
def yb_en : MethodName := ⟨"java/lang/AbstractStringBuilder", "ensureCapacityInternal", "(I)V"⟩
set_option maxRecDepth 100000 in
theorem db_en_0 : decode prog_16_method_9_code 0 = .ok (.aload_n 0, 1) := rfl
set_option maxRecDepth 100000 in
theorem db_en_1 : decode prog_16_method_9_code 1 = .ok (.getfield 15, 3) := rfl
set_option maxRecDepth 100000 in
theorem db_en_4 : decode prog_16_method_9_code 4 = .ok (.arraylength, 1) := rfl
set_option maxRecDepth 100000 in
theorem db_en_5 : decode prog_16_method_9_code 5 = .ok (.aload_n 0, 1) := rfl
set_option maxRecDepth 100000 in
theorem db_en_6 : decode prog_16_method_9_code 6 = .ok (.getfield 22, 3) := rfl
set_option maxRecDepth 100000 in
theorem db_en_9 : decode prog_16_method_9_code 9 = .ok (.ishr, 1) := rfl
set_option maxRecDepth 100000 in
theorem db_en_10 : decode prog_16_method_9_code 10 = .ok (.istore_n 2, 1) := rfl
set_option maxRecDepth 100000 in
theorem db_en_11 : decode prog_16_method_9_code 11 = .ok (.iload_n 1, 1) := rfl
set_option maxRecDepth 100000 in
theorem db_en_12 : decode prog_16_method_9_code 12 = .ok (.iload_n 2, 1) := rfl
set_option maxRecDepth 100000 in
theorem db_en_13 : decode prog_16_method_9_code 13 = .ok (.isub, 1) := rfl
set_option maxRecDepth 100000 in
theorem db_en_14 : decode prog_16_method_9_code 14 = .ok (.ifCond .le 24, 3) := rfl
set_option maxRecDepth 100000 in
theorem db_en_38 : decode prog_16_method_9_code 38 = .ok (.return_, 1) := rfl
set_option maxRecDepth 100000 in
theorem db_en_17 : decode prog_16_method_9_code 17 = .ok (.aload_n 0, 1) := rfl
set_option maxRecDepth 100000 in
theorem db_en_18 : decode prog_16_method_9_code 18 = .ok (.aload_n 0, 1) := rfl
set_option maxRecDepth 100000 in
theorem db_en_19 : decode prog_16_method_9_code 19 = .ok (.getfield 15, 3) := rfl
set_option maxRecDepth 100000 in
theorem db_en_22 : decode prog_16_method_9_code 22 = .ok (.aload_n 0, 1) := rfl
set_option maxRecDepth 100000 in
theorem db_en_23 : decode prog_16_method_9_code 23 = .ok (.iload_n 1, 1) := rfl
set_option maxRecDepth 100000 in
theorem wb_1 : BWd 3 "java/lang/AbstractStringBuilder" 104 yb_nc prog_16_method_10_code 6 (some .int) "java/lang/AbstractStringBuilder" 1 := ⟨⟨⟨gW_at (i := 1430) rfl rfl, gW_at (i := 114) rfl rfl, gW_at (i := 1433) rfl rfl⟩, ⟨by decide, by decide, rfl⟩, by decide⟩, gW_at (i := 1432) rfl rfl, by decide, rfl⟩
set_option maxRecDepth 100000 in
theorem db_en_24 : decode prog_16_method_9_code 24 = .ok (.invokevirtual 104, 3) := rfl
set_option maxRecDepth 100000 in
theorem db_en_27 : decode prog_16_method_9_code 27 = .ok (.aload_n 0, 1) := rfl
set_option maxRecDepth 100000 in
theorem db_en_28 : decode prog_16_method_9_code 28 = .ok (.getfield 22, 3) := rfl
set_option maxRecDepth 100000 in
theorem db_en_31 : decode prog_16_method_9_code 31 = .ok (.ishl, 1) := rfl
set_option maxRecDepth 100000 in
theorem wb_2 : BWd 1 "java/lang/AbstractStringBuilder" 108 yb_cp prog_35_method_121_code 3 (some (.array .byte)) "java/lang/AbstractStringBuilder" 2 := ⟨⟨⟨gW_at (i := 1443) rfl rfl, gW_at (i := 131) rfl rfl, gW_at (i := 1445) rfl rfl⟩, ⟨by decide, by decide, rfl⟩, by decide⟩, gW_at (i := 1444) rfl rfl⟩
set_option maxRecDepth 100000 in
theorem db_en_32 : decode prog_16_method_9_code 32 = .ok (.invokestatic 108, 3) := rfl
set_option maxRecDepth 100000 in
theorem db_en_35 : decode prog_16_method_9_code 35 = .ok (.putfield 15, 3) := rfl
set_option maxHeartbeats 4000000 in
set_option maxRecDepth 100000 in
theorem b_ensure {a : Int} (h0 : 0 ≤ a) (h1 : a ≤ 142) : BC yb_en prog_16_method_9_code 3 none 4 400 1 142 bs (fun x adr => [.ref bs, .int (iN a)]) (fun x => a ≤ (xC x : Int) + 2) (fun x v x' => v = none ∧ a ≤ (xC x' : Int) ∧ xN x' = xN x ∧ ∀ j, j < xC x → xT x' j = xT x j) := by
  refine bc_of (by decide) rfl (fun _ _ => by simp [lg_sl, Value.category]) ?_
  intro p l e s m args below meth c D tA n0 adr adV sz x ls hP X hz g hret hlk hl
  have hl : lv_has ls 3 [(0, .ref bs), (1, .int (iN a))] := hl
  have hC : xC x ≤ 142 := by rcases g.2.2.1.1 with h | h | h | h <;> omega
  refine lv_aload_n (i := 0) (x := bs) X.1 X.2.1 db_en_0 rfl (lv_at hl 0 rfl) ?_
  refine b_get (k := 0) X hz g (by decide) fb_2 rfl db_en_1 ?_
  refine b_len X hz g db_en_4 ?_
  refine lv_aload_n (i := 0) (x := bs) X.1 X.2.1 db_en_5 rfl (lv_at hl 0 rfl) ?_
  refine b_get (k := 1) X hz g (by decide) fb_0 rfl db_en_6 ?_
  refine lv_ishr X.1 X.2.1 db_en_9 ?_
  rw [sh_r0]
  refine lv_istore_n (i := 2) (lv' := [(2, .int (iN (xC x : Int))), (0, .ref bs), (1, .int (iN a))]) X.1 X.2.1 db_en_10 rfl hl (by decide) rfl (fun ls1 hl1 => ?_)
  refine lv_iload_n (i := 1) (x := iN a) X.1 X.2.1 db_en_11 rfl (lv_at hl1 2 rfl) ?_
  refine lv_iload_n (i := 2) (x := iN (xC x : Int)) X.1 X.2.1 db_en_12 rfl (lv_at hl1 0 rfl) ?_
  refine lv_isub X.1 X.2.1 db_en_13 ?_
  rw [iN_sub]
  refine lv_if_le (tgt := 38) X.1 X.2.1 db_en_14 (by decide) (fun h => ?_) (fun h => ?_)
  · have h2 : a ≤ (xC x : Int) := by
      have := (iN_le (x := a - (xC x : Int)) ⟨by omega, by omega⟩ inR_0).mp h
      omega
    exact b_vret X hret hlk g ⟨rfl, h2, rfl, fun j hj => rfl⟩ (by omega) (by omega) db_en_38
  · have h2 : (xC x : Int) < a := by
      have z : ¬ a - (xC x : Int) ≤ 0 := fun z => h ((iN_le (x := a - (xC x : Int)) ⟨by omega, by omega⟩ inR_0).mpr z)
      omega
    refine lv_aload_n (i := 0) (x := bs) X.1 X.2.1 db_en_17 rfl (lv_at hl1 1 rfl) ?_
    refine lv_aload_n (i := 0) (x := bs) X.1 X.2.1 db_en_18 rfl (lv_at hl1 1 rfl) ?_
    refine b_get (k := 0) X hz g (by decide) fb_2 rfl db_en_19 ?_
    refine lv_aload_n (i := 0) (x := bs) X.1 X.2.1 db_en_22 rfl (lv_at hl1 1 rfl) ?_
    refine lv_iload_n (i := 1) (x := iN a) X.1 X.2.1 db_en_23 rfl (lv_at hl1 2 rfl) ?_
    refine b_callP (As := [.int (iN a)]) (rest := [.ref (xB x), .ref bs]) X hz g (b_newCapacity h0 (by omega)) trivial wb_1 rfl rfl hl1.1 ⟨by decide, by decide⟩ ⟨by decide, by decide⟩ (by simp [Value.category]) rfl db_en_24 (fun v x1 H1 lc1 hv1 g1 => ?_)
    obtain ⟨rfl, rfl⟩ := hv1
    have hn : (xC x1 : Int) + max (a - (xC x1 : Int)) ((xC x1 : Int) + 2) = ((2 * xC x1 + 2 : Nat) : Int) := by omega
    rw [hn]
    refine lv_aload_n (i := 0) (x := bs) X.1 X.2.1 db_en_27 rfl (lv_at hl1 1 rfl) ?_
    refine b_get (k := 1) X hz g1 (by decide) fb_0 rfl db_en_28 ?_
    refine lv_ishl X.1 X.2.1 db_en_31 ?_
    rw [sh_l0]
    have hC2 : cOk (2 * xC x1 + 2) := by
      rcases g1.2.2.1.1 with h | h | h | h
      · rw [h]; exact .inr (.inl rfl)
      · rw [h]; exact .inr (.inr (.inl rfl))
      · rw [h]; exact .inr (.inr (.inr rfl))
      · exfalso; omega
    have hN2 := g1.2.2.1.2.1
    refine b_callCp (n := 2 * xC x1 + 2) (rest := [.ref bs]) X hz g1 wb_2 (by omega) (by rcases hC2 with h | h | h | h <;> omega) hl1.1 ⟨by decide, by decide⟩ ⟨by decide, by decide⟩ (by simp [Value.category]) rfl db_en_32 (fun q T2 H2 lc2 hq hT2 hok g2 hat => ?_)
    refine b_putV X hz g2 hq hok hC2 (by omega) hat fb_2 db_en_35 (fun H3 lc3 g3 => ?_)
    exact b_vret X hret hlk g3 ⟨rfl, by show a ≤ ((2 * xC x1 + 2 : Nat) : Int); omega, rfl, hT2⟩ (by omega) (by omega) db_en_38
def yb_sl : MethodName := ⟨"java/lang/AbstractStringBuilder", "setLength", "(I)V"⟩
set_option maxRecDepth 100000 in
theorem db_sl_0 : decode prog_16_method_13_code 0 = .ok (.iload_n 1, 1) := rfl
set_option maxRecDepth 100000 in
theorem db_sl_1 : decode prog_16_method_13_code 1 = .ok (.ifCond .ge 12, 3) := rfl
set_option maxRecDepth 100000 in
theorem db_sl_13 : decode prog_16_method_13_code 13 = .ok (.aload_n 0, 1) := rfl
set_option maxRecDepth 100000 in
theorem db_sl_14 : decode prog_16_method_13_code 14 = .ok (.iload_n 1, 1) := rfl
set_option maxRecDepth 100000 in
theorem wb_3 : BWd 3 "java/lang/AbstractStringBuilder" 100 yb_en prog_16_method_9_code 3 none "java/lang/AbstractStringBuilder" 1 := ⟨⟨⟨gW_at (i := 1426) rfl rfl, gW_at (i := 114) rfl rfl, gW_at (i := 1429) rfl rfl⟩, ⟨by decide, by decide, rfl⟩, by decide⟩, gW_at (i := 1428) rfl rfl, by decide, rfl⟩
set_option maxRecDepth 100000 in
theorem db_sl_15 : decode prog_16_method_13_code 15 = .ok (.invokevirtual 100, 3) := rfl
set_option maxRecDepth 100000 in
theorem db_sl_18 : decode prog_16_method_13_code 18 = .ok (.aload_n 0, 1) := rfl
set_option maxRecDepth 100000 in
theorem db_sl_19 : decode prog_16_method_13_code 19 = .ok (.getfield 79, 3) := rfl
set_option maxRecDepth 100000 in
theorem db_sl_22 : decode prog_16_method_13_code 22 = .ok (.iload_n 1, 1) := rfl
set_option maxRecDepth 100000 in
theorem db_sl_23 : decode prog_16_method_13_code 23 = .ok (.if_icmp .ge 40, 3) := rfl
set_option maxRecDepth 100000 in
theorem db_sl_63 : decode prog_16_method_13_code 63 = .ok (.aload_n 0, 1) := rfl
set_option maxRecDepth 100000 in
theorem db_sl_64 : decode prog_16_method_13_code 64 = .ok (.getfield 79, 3) := rfl
set_option maxRecDepth 100000 in
theorem db_sl_67 : decode prog_16_method_13_code 67 = .ok (.iload_n 1, 1) := rfl
set_option maxRecDepth 100000 in
theorem fb_3 : Cond.fieldLink "java/lang/AbstractStringBuilder" 73 (TJ4 2).1 (TJ4 2).2.1 (TJ4 2).2.2.1 ∈ gW := gW_at (i := 494) rfl rfl
set_option maxRecDepth 100000 in
theorem db_sl_68 : decode prog_16_method_13_code 68 = .ok (.if_icmp .le 8, 3) := rfl
set_option maxRecDepth 100000 in
theorem db_sl_71 : decode prog_16_method_13_code 71 = .ok (.aload_n 0, 1) := rfl
set_option maxRecDepth 100000 in
theorem db_sl_72 : decode prog_16_method_13_code 72 = .ok (.iconst 1, 1) := rfl
set_option maxRecDepth 100000 in
theorem db_sl_73 : decode prog_16_method_13_code 73 = .ok (.putfield 73, 3) := rfl
set_option maxRecDepth 100000 in
theorem db_sl_76 : decode prog_16_method_13_code 76 = .ok (.aload_n 0, 1) := rfl
set_option maxRecDepth 100000 in
theorem db_sl_77 : decode prog_16_method_13_code 77 = .ok (.iload_n 1, 1) := rfl
set_option maxRecDepth 100000 in
theorem db_sl_78 : decode prog_16_method_13_code 78 = .ok (.putfield 79, 3) := rfl
set_option maxRecDepth 100000 in
theorem db_sl_81 : decode prog_16_method_13_code 81 = .ok (.return_, 1) := rfl
set_option maxHeartbeats 4000000 in
set_option maxRecDepth 100000 in
theorem b_setLen0 : BC yb_sl prog_16_method_13_code 2 none 5 500 1 142 bs (fun x adr => [.ref bs, .int (iN 0)]) (fun x => True) (fun x v x' => v = none ∧ xN x' = 0) := by
  refine bc_of (by decide) rfl (fun _ _ => by simp [lg_sl, Value.category]) ?_
  intro p l e s m args below meth c D tA n0 adr adV sz x ls hP X hz g hret hlk hl
  have hl : lv_has ls 2 [(0, .ref bs), (1, .int (iN 0))] := hl
  refine lv_iload_n (i := 1) (x := iN 0) X.1 X.2.1 db_sl_0 rfl (lv_at hl 1 rfl) ?_
  refine lv_if_ge (tgt := 13) X.1 X.2.1 db_sl_1 (by decide) (fun _ => ?_) (fun h => absurd (by decide) h)
  refine lv_aload_n (i := 0) (x := bs) X.1 X.2.1 db_sl_13 rfl (lv_at hl 0 rfl) ?_
  refine lv_iload_n (i := 1) (x := iN 0) X.1 X.2.1 db_sl_14 rfl (lv_at hl 1 rfl) ?_
  refine b_callP (As := [.int (iN 0)]) (rest := []) X hz g (b_ensure (Int.le_refl 0) (by omega)) (by omega) wb_3 rfl rfl hl.1 ⟨by decide, by decide⟩ ⟨by decide, by decide⟩ (by simp [Value.category]) rfl db_sl_15 (fun v x1 H1 lc1 hv1 g1 => ?_)
  obtain ⟨rfl, hv2, hv3, hv4⟩ := hv1
  refine lv_aload_n (i := 0) (x := bs) X.1 X.2.1 db_sl_18 rfl (lv_at hl 0 rfl) ?_
  refine b_get (k := 3) X hz g1 (by decide) fb_1 rfl db_sl_19 ?_
  refine lv_iload_n (i := 1) (x := iN 0) X.1 X.2.1 db_sl_22 rfl (lv_at hl 1 rfl) ?_
  have hN1 : xN x1 ≤ xC x1 := g1.2.2.1.2.1
  have hC1 : xC x1 ≤ 142 := by rcases g1.2.2.1.1 with h | h | h | h <;> omega
  refine lv_icmp_ge (tgt := 63) X.1 X.2.1 db_sl_23 (by decide) (fun _ => ?_) (fun h => absurd ((iN_le inR_0 (y := (xN x1 : Int)) ⟨by omega, by omega⟩).mpr (by omega)) h)
  refine lv_aload_n (i := 0) (x := bs) X.1 X.2.1 db_sl_63 rfl (lv_at hl 0 rfl) ?_
  refine b_get (k := 3) X hz g1 (by decide) fb_1 rfl db_sl_64 ?_
  refine lv_iload_n (i := 1) (x := iN 0) X.1 X.2.1 db_sl_67 rfl (lv_at hl 1 rfl) ?_
  suffices G : ∀ (x2 : BS) H2 lc2, okX x2 → xN x2 = xN x1 → GB D tA sz bs (xB x) x2 s H2 lc2 → W p l e _ s m args below meth c H2 lc2 (0 + 1) (0 + 142) (MQ below (BPost D tA sz bs (xB x) _) args s 1 142 (bA bs (xB x) sz)) (F0 m 76 ls []) by
    refine lv_icmp_le (tgt := 76) X.1 X.2.1 db_sl_68 (by decide) (fun _ => ?_) (fun _ => ?_)
    · exact G x1 H1 lc1 g1.2.2.1 rfl g1
    · refine lv_aload_n (i := 0) (x := bs) X.1 X.2.1 db_sl_71 rfl (lv_at hl 0 rfl) ?_
      refine lv_iconst (v := iN 1) X.1 X.2.1 db_sl_72 (by decide) ?_
      exact b_put (k := 2) (ty := .boolean) (x' := (xB x1, xC x1, xN x1, iN 1, xT x1)) X hz g1 (by decide) fb_3 rfl rfl rfl rfl db_sl_73 g1.2.2.1 rfl rfl rfl (fun H2 lc2 g2 => G _ H2 lc2 g2.2.2.1 rfl g2)
  intro x2 H2 lc2 hx2 hn2 g2
  refine lv_aload_n (i := 0) (x := bs) X.1 X.2.1 db_sl_76 rfl (lv_at hl 0 rfl) ?_
  refine lv_iload_n (i := 1) (x := iN 0) X.1 X.2.1 db_sl_77 rfl (lv_at hl 1 rfl) ?_
  refine b_put (k := 3) (ty := .int) (x' := (xB x2, xC x2, 0, xM x2, xT x2)) X hz g2 (by decide) fb_1 rfl rfl (vp_nar_int _) rfl db_sl_78 ⟨hx2.1, Nat.zero_le _, hx2.2.2⟩ rfl rfl rfl (fun H3 lc3 g3 => ?_)
  exact b_vret X hret hlk g3 ⟨rfl, rfl⟩ (by omega) (by omega) db_sl_81
end B2

/-! THE BUILDER, 4: signs put behind (printed by wip/whole/g7b.py). -/
theorem i2b_id {a : Int} (h0 : 0 ≤ a) (h1 : a ≤ 127) : (iN a).toInt8.toInt32 = iN a := by
  obtain ⟨n, rfl⟩ : ∃ n : Nat, a = n := ⟨a.toNat, by omega⟩
  have hn : n < 128 := by omega
  exact (show ∀ n : Nat, n < 128 → (iN (n : Int)).toInt8.toInt32 = iN (n : Int) by decide +kernel) n hn
theorem tset_eq {T : Nat → Int} {k : Nat} {v : Int} : tset T k v k = v := if_pos rfl
theorem tset_ne {T : Nat → Int} {k j : Nat} {v : Int} (h : j ≠ k) : tset T k v j = T j := if_neg h
section B2
variable {bs : Nat}
def yb_ac : MethodName := ⟨"java/lang/AbstractStringBuilder", "append", "(C)Ljava/lang/AbstractStringBuilder;"⟩
set_option maxRecDepth 100000 in
theorem db_ac_0 : decode prog_16_method_31_code 0 = .ok (.aload_n 0, 1) := rfl
set_option maxRecDepth 100000 in
theorem db_ac_1 : decode prog_16_method_31_code 1 = .ok (.aload_n 0, 1) := rfl
set_option maxRecDepth 100000 in
theorem db_ac_2 : decode prog_16_method_31_code 2 = .ok (.getfield 79, 3) := rfl
set_option maxRecDepth 100000 in
theorem db_ac_5 : decode prog_16_method_31_code 5 = .ok (.iconst 1, 1) := rfl
set_option maxRecDepth 100000 in
theorem db_ac_6 : decode prog_16_method_31_code 6 = .ok (.iadd, 1) := rfl
set_option maxRecDepth 100000 in
theorem db_ac_7 : decode prog_16_method_31_code 7 = .ok (.invokevirtual 100, 3) := rfl
set_option maxRecDepth 100000 in
theorem db_ac_10 : decode prog_16_method_31_code 10 = .ok (.aload_n 0, 1) := rfl
set_option maxRecDepth 100000 in
theorem wb_4 : BWd 0 "java/lang/AbstractStringBuilder" 83 yb_lat prog_16_method_68_code 1 (some .boolean) RJ4 0 := ⟨⟨⟨gW_at (i := 1457) rfl rfl, gW_at (i := 114) rfl rfl, gW_at (i := 1461) rfl rfl⟩, ⟨by decide, by decide, rfl⟩, by decide⟩, gW_at (i := 1458) rfl rfl, gW_at (i := 1460) rfl rfl⟩
set_option maxRecDepth 100000 in
theorem db_ac_11 : decode prog_16_method_31_code 11 = .ok (.invokevirtual 83, 3) := rfl
set_option maxRecDepth 100000 in
theorem db_ac_14 : decode prog_16_method_31_code 14 = .ok (.ifCond .eq 31, 3) := rfl
set_option maxRecDepth 100000 in
theorem db_ac_17 : decode prog_16_method_31_code 17 = .ok (.iload_n 1, 1) := rfl
set_option maxRecDepth 100000 in
theorem wb_5 : BWd 1 "java/lang/AbstractStringBuilder" 191 yb_ce prog_29_method_3_code 1 (some .boolean) "java/lang/AbstractStringBuilder" 1 := ⟨⟨⟨gW_at (i := 1647) rfl rfl, gW_at (i := 125) rfl rfl, gW_at (i := 1649) rfl rfl⟩, ⟨by decide, by decide, rfl⟩, by decide⟩, gW_at (i := 1648) rfl rfl⟩
set_option maxRecDepth 100000 in
theorem db_ac_18 : decode prog_16_method_31_code 18 = .ok (.invokestatic 191, 3) := rfl
set_option maxRecDepth 100000 in
theorem db_ac_21 : decode prog_16_method_31_code 21 = .ok (.ifCond .eq 24, 3) := rfl
set_option maxRecDepth 100000 in
theorem db_ac_24 : decode prog_16_method_31_code 24 = .ok (.aload_n 0, 1) := rfl
set_option maxRecDepth 100000 in
theorem db_ac_25 : decode prog_16_method_31_code 25 = .ok (.getfield 15, 3) := rfl
set_option maxRecDepth 100000 in
theorem db_ac_28 : decode prog_16_method_31_code 28 = .ok (.aload_n 0, 1) := rfl
set_option maxRecDepth 100000 in
theorem db_ac_29 : decode prog_16_method_31_code 29 = .ok (.dup, 1) := rfl
set_option maxRecDepth 100000 in
theorem db_ac_30 : decode prog_16_method_31_code 30 = .ok (.getfield 79, 3) := rfl
set_option maxRecDepth 100000 in
theorem db_ac_33 : decode prog_16_method_31_code 33 = .ok (.dup_x1, 1) := rfl
set_option maxRecDepth 100000 in
theorem db_ac_34 : decode prog_16_method_31_code 34 = .ok (.iconst 1, 1) := rfl
set_option maxRecDepth 100000 in
theorem db_ac_35 : decode prog_16_method_31_code 35 = .ok (.iadd, 1) := rfl
set_option maxRecDepth 100000 in
theorem db_ac_36 : decode prog_16_method_31_code 36 = .ok (.putfield 79, 3) := rfl
set_option maxRecDepth 100000 in
theorem db_ac_39 : decode prog_16_method_31_code 39 = .ok (.iload_n 1, 1) := rfl
set_option maxRecDepth 100000 in
theorem db_ac_40 : decode prog_16_method_31_code 40 = .ok (.i2b, 1) := rfl
set_option maxRecDepth 100000 in
theorem db_ac_41 : decode prog_16_method_31_code 41 = .ok (.bastore, 1) := rfl
set_option maxRecDepth 100000 in
theorem db_ac_42 : decode prog_16_method_31_code 42 = .ok (.goto 33, 3) := rfl
set_option maxRecDepth 100000 in
theorem db_ac_75 : decode prog_16_method_31_code 75 = .ok (.aload_n 0, 1) := rfl
set_option maxRecDepth 100000 in
theorem db_ac_76 : decode prog_16_method_31_code 76 = .ok (.areturn, 1) := rfl
set_option maxHeartbeats 4000000 in
set_option maxRecDepth 100000 in
theorem b_appC0 {a : Int} (h0 : 0 ≤ a) (h1 : a ≤ 127) : BC yb_ac prog_16_method_31_code 2 (some (.object "java/lang/AbstractStringBuilder")) 6 600 1 142 bs (fun x adr => [.ref bs, .int (iN a)]) (fun x => xN x ≤ 141) (fun x v x' => v = some (.ref bs) ∧ xN x' = xN x + 1 ∧ (∀ j, j < xN x → xT x' j = xT x j) ∧ xT x' (xN x) = a) := by
  refine bc_of (by decide) rfl (fun _ _ => by simp [lg_sl, Value.category]) ?_
  intro p l e s m args below meth c D tA n0 adr adV sz x ls hP X hz g hret hlk hl
  have hl : lv_has ls 2 [(0, .ref bs), (1, .int (iN a))] := hl
  have hN0 := g.2.2.1.2.1
  refine lv_aload_n (i := 0) (x := bs) X.1 X.2.1 db_ac_0 rfl (lv_at hl 0 rfl) ?_
  refine lv_aload_n (i := 0) (x := bs) X.1 X.2.1 db_ac_1 rfl (lv_at hl 0 rfl) ?_
  refine b_get (k := 3) X hz g (by decide) fb_1 rfl db_ac_2 ?_
  refine lv_iconst (v := iN 1) X.1 X.2.1 db_ac_5 (by decide) ?_
  refine lv_iadd X.1 X.2.1 db_ac_6 ?_
  rw [iN_add]
  refine b_callP (As := [.int (iN ((xN x : Int) + 1))]) (rest := []) X hz g (b_ensure (by omega) (by omega)) (by omega) wb_3 rfl rfl hl.1 ⟨by decide, by decide⟩ ⟨by decide, by decide⟩ (by simp [Value.category]) rfl db_ac_7 (fun v x1 H1 lc1 hv1 g1 => ?_)
  obtain ⟨rfl, hv2, hv3, hv4⟩ := hv1
  refine lv_aload_n (i := 0) (x := bs) X.1 X.2.1 db_ac_10 rfl (lv_at hl 0 rfl) ?_
  refine b_callV (As := []) (rest := []) X hz g1 (b_latin) trivial wb_4 rfl rfl (b_recv hz g1) hl.1 ⟨by decide, by decide⟩ ⟨by decide, by decide⟩ (by simp [Value.category]) rfl db_ac_11 (fun v x2 H2 lc2 hv2 g2 => ?_)
  obtain ⟨rfl, rfl⟩ := hv2
  refine lv_if_eq (tgt := 45) X.1 X.2.1 db_ac_14 (by decide) (fun h => absurd h (by decide)) (fun _ => ?_)
  refine lv_iload_n (i := 1) (x := iN a) X.1 X.2.1 db_ac_17 rfl (lv_at hl 1 rfl) ?_
  refine b_callS (As := [.int (iN a)]) (rest := []) X hz g2 (b_canEncode h0 h1) trivial wb_5 rfl rfl hl.1 ⟨by decide, by decide⟩ ⟨by decide, by decide⟩ (by simp [Value.category]) rfl db_ac_18 (fun v x3 H3 lc3 hv3 g3 => ?_)
  obtain ⟨rfl, rfl⟩ := hv3
  refine lv_if_eq (tgt := 45) X.1 X.2.1 db_ac_21 (by decide) (fun h => absurd h (by decide)) (fun _ => ?_)
  refine lv_aload_n (i := 0) (x := bs) X.1 X.2.1 db_ac_24 rfl (lv_at hl 0 rfl) ?_
  refine b_get (k := 0) X hz g3 (by decide) fb_2 rfl db_ac_25 ?_
  refine lv_aload_n (i := 0) (x := bs) X.1 X.2.1 db_ac_28 rfl (lv_at hl 0 rfl) ?_
  refine lv_dup X.1 X.2.1 db_ac_29 rfl ?_
  refine b_get (k := 3) X hz g3 (by decide) fb_1 rfl db_ac_30 ?_
  refine lv_dup_x1 X.1 X.2.1 db_ac_33 rfl rfl ?_
  refine lv_iconst (v := iN 1) X.1 X.2.1 db_ac_34 (by decide) ?_
  refine lv_iadd X.1 X.2.1 db_ac_35 ?_
  rw [iN_add]
  have hN3 := g3.2.2.1.2.1
  refine b_put (k := 3) (ty := .int) (x' := (xB x3, xC x3, xN x3 + 1, xM x3, xT x3)) X hz g3 (by decide) fb_1 rfl rfl (vp_nar_int _) rfl db_ac_36 ⟨g3.2.2.1.1, by show xN x3 + 1 ≤ xC x3; omega, g3.2.2.1.2.2⟩ rfl rfl rfl (fun H4 lc4 g4 => ?_)
  refine lv_iload_n (i := 1) (x := iN a) X.1 X.2.1 db_ac_39 rfl (lv_at hl 1 rfl) ?_
  refine lv_i2b X.1 X.2.1 db_ac_40 (i2b_id h0 h1) ?_
  refine b_ast (x := (xB x3, xC x3, xN x3 + 1, xM x3, xT x3)) X hz g4 (by omega) (by show ((xN x3 : Nat) : Int) < (xC x3 : Int); omega) h0 h1 db_ac_41 (fun H5 lc5 g5 => ?_)
  refine lv_goto (tgt := 75) X.1 X.2.1 db_ac_42 (by decide) ?_
  refine lv_aload_n (i := 0) (x := bs) X.1 X.2.1 db_ac_75 rfl (lv_at hl 0 rfl) ?_
  exact b_aret X hret hlk g5 ⟨rfl, by show xN x3 + 1 = _; omega, fun j hj => (tset_ne (by omega)).trans (hv4 j (by omega)), by rw [← hv3]; exact tset_eq⟩ (by omega) (by omega) db_ac_76
def yb_ss : MethodName := ⟨"java/lang/Integer", "stringSize", "(I)I"⟩
set_option maxRecDepth 100000 in
theorem db_ss_0 : decode prog_23_method_13_code 0 = .ok (.iconst 1, 1) := rfl
set_option maxRecDepth 100000 in
theorem db_ss_1 : decode prog_23_method_13_code 1 = .ok (.istore_n 1, 1) := rfl
set_option maxRecDepth 100000 in
theorem db_ss_2 : decode prog_23_method_13_code 2 = .ok (.iload_n 0, 1) := rfl
set_option maxRecDepth 100000 in
theorem db_ss_3 : decode prog_23_method_13_code 3 = .ok (.ifCond .lt 8, 3) := rfl
set_option maxRecDepth 100000 in
theorem db_ss_6 : decode prog_23_method_13_code 6 = .ok (.iconst 0, 1) := rfl
set_option maxRecDepth 100000 in
theorem db_ss_7 : decode prog_23_method_13_code 7 = .ok (.istore_n 1, 1) := rfl
set_option maxRecDepth 100000 in
theorem db_ss_8 : decode prog_23_method_13_code 8 = .ok (.iload_n 0, 1) := rfl
set_option maxRecDepth 100000 in
theorem db_ss_9 : decode prog_23_method_13_code 9 = .ok (.ineg, 1) := rfl
set_option maxRecDepth 100000 in
theorem db_ss_10 : decode prog_23_method_13_code 10 = .ok (.istore_n 0, 1) := rfl
set_option maxRecDepth 100000 in
theorem db_ss_11 : decode prog_23_method_13_code 11 = .ok (.bipush (-10), 2) := rfl
set_option maxRecDepth 100000 in
theorem db_ss_13 : decode prog_23_method_13_code 13 = .ok (.istore_n 2, 1) := rfl
set_option maxRecDepth 100000 in
theorem db_ss_14 : decode prog_23_method_13_code 14 = .ok (.iconst 1, 1) := rfl
set_option maxRecDepth 100000 in
theorem db_ss_15 : decode prog_23_method_13_code 15 = .ok (.istore_n 3, 1) := rfl
set_option maxRecDepth 100000 in
theorem db_ss_16 : decode prog_23_method_13_code 16 = .ok (.iload_n 3, 1) := rfl
set_option maxRecDepth 100000 in
theorem db_ss_17 : decode prog_23_method_13_code 17 = .ok (.bipush 10, 2) := rfl
set_option maxRecDepth 100000 in
theorem db_ss_19 : decode prog_23_method_13_code 19 = .ok (.if_icmp .ge 23, 3) := rfl
set_option maxRecDepth 100000 in
theorem db_ss_22 : decode prog_23_method_13_code 22 = .ok (.iload_n 0, 1) := rfl
set_option maxRecDepth 100000 in
theorem db_ss_23 : decode prog_23_method_13_code 23 = .ok (.iload_n 2, 1) := rfl
set_option maxRecDepth 100000 in
theorem db_ss_24 : decode prog_23_method_13_code 24 = .ok (.if_icmp .le 7, 3) := rfl
set_option maxRecDepth 100000 in
theorem db_ss_31 : decode prog_23_method_13_code 31 = .ok (.bipush 10, 2) := rfl
set_option maxRecDepth 100000 in
theorem db_ss_33 : decode prog_23_method_13_code 33 = .ok (.iload_n 2, 1) := rfl
set_option maxRecDepth 100000 in
theorem db_ss_34 : decode prog_23_method_13_code 34 = .ok (.imul, 1) := rfl
set_option maxRecDepth 100000 in
theorem db_ss_35 : decode prog_23_method_13_code 35 = .ok (.istore_n 2, 1) := rfl
set_option maxRecDepth 100000 in
theorem db_ss_36 : decode prog_23_method_13_code 36 = .ok (.iinc 3 1, 3) := rfl
set_option maxRecDepth 100000 in
theorem db_ss_39 : decode prog_23_method_13_code 39 = .ok (.goto (-23), 3) := rfl
set_option maxRecDepth 100000 in
theorem db_ss_27 : decode prog_23_method_13_code 27 = .ok (.iload_n 3, 1) := rfl
set_option maxRecDepth 100000 in
theorem db_ss_28 : decode prog_23_method_13_code 28 = .ok (.iload_n 1, 1) := rfl
set_option maxRecDepth 100000 in
theorem db_ss_29 : decode prog_23_method_13_code 29 = .ok (.iadd, 1) := rfl
set_option maxRecDepth 100000 in
theorem db_ss_30 : decode prog_23_method_13_code 30 = .ok (.ireturn, 1) := rfl
set_option maxHeartbeats 4000000 in
set_option maxRecDepth 100000 in
theorem b_strSize {a : Int} (h0 : 0 ≤ a) (h1 : a ≤ 99) : BC yb_ss prog_23_method_13_code 4 (some .int) 0 0 0 0 bs (fun x adr => [.int (iN a)]) (fun x => True) (fun x v x' => v = some (.int (iN (if a ≤ 9 then 1 else 2))) ∧ x' = x) := by
  refine bc_of (by decide) rfl (fun _ _ => by simp [lg_sl, Value.category]) ?_
  intro p l e s m args below meth c D tA n0 adr adV sz x ls hP X hz g hret hlk hl
  have hl : lv_has ls 4 [(0, .int (iN a))] := hl
  refine lv_iconst (v := iN 1) X.1 X.2.1 db_ss_0 (by decide) ?_
  refine lv_istore_n (i := 1) (lv' := [(1, .int (iN 1)), (0, .int (iN a))]) X.1 X.2.1 db_ss_1 rfl hl (by decide) rfl (fun ls1 hl1 => ?_)
  refine lv_iload_n (i := 0) (x := iN a) X.1 X.2.1 db_ss_2 rfl (lv_at hl1 1 rfl) ?_
  refine lv_if_lt (tgt := 11) X.1 X.2.1 db_ss_3 (by decide) (fun h => absurd h (fun z => by
    have := (iN_lt (x := a) (y := 0) ⟨by omega, by omega⟩ inR_0).mp z
    omega)) (fun _ => ?_)
  refine lv_iconst (v := iN 0) X.1 X.2.1 db_ss_6 (by decide) ?_
  refine lv_istore_n (i := 1) (lv' := [(1, .int (iN 0)), (0, .int (iN a))]) X.1 X.2.1 db_ss_7 rfl hl1 (by decide) rfl (fun ls2 hl2 => ?_)
  refine lv_iload_n (i := 0) (x := iN a) X.1 X.2.1 db_ss_8 rfl (lv_at hl2 1 rfl) ?_
  refine lv_ineg X.1 X.2.1 db_ss_9 ?_
  rw [iN_neg]
  refine lv_istore_n (i := 0) (lv' := [(0, .int (iN (-a))), (1, .int (iN 0))]) X.1 X.2.1 db_ss_10 rfl hl2 (by decide) rfl (fun ls3 hl3 => ?_)
  refine lv_bipush (v := iN (-10)) X.1 X.2.1 db_ss_11 (by decide) ?_
  refine lv_istore_n (i := 2) (lv' := [(2, .int (iN (-10))), (0, .int (iN (-a))), (1, .int (iN 0))]) X.1 X.2.1 db_ss_13 rfl hl3 (by decide) rfl (fun ls4 hl4 => ?_)
  refine lv_iconst (v := iN 1) X.1 X.2.1 db_ss_14 (by decide) ?_
  refine lv_istore_n (i := 3) (lv' := [(3, .int (iN 1)), (2, .int (iN (-10))), (0, .int (iN (-a))), (1, .int (iN 0))]) X.1 X.2.1 db_ss_15 rfl hl4 (by decide) rfl (fun ls5 hl5 => ?_)
  refine lv_iload_n (i := 3) (x := iN 1) X.1 X.2.1 db_ss_16 rfl (lv_at hl5 0 rfl) ?_
  refine lv_bipush (v := iN 10) X.1 X.2.1 db_ss_17 (by decide) ?_
  refine lv_icmp_ge (tgt := 42) X.1 X.2.1 db_ss_19 (by decide) (fun h => absurd h (by decide)) (fun _ => ?_)
  refine lv_iload_n (i := 0) (x := iN (-a)) X.1 X.2.1 db_ss_22 rfl (lv_at hl5 2 rfl) ?_
  refine lv_iload_n (i := 2) (x := iN (-10)) X.1 X.2.1 db_ss_23 rfl (lv_at hl5 1 rfl) ?_
  refine lv_icmp_le (tgt := 31) X.1 X.2.1 db_ss_24 (by decide) (fun h => ?_) (fun h => ?_)
  · have h2 : ¬ a ≤ 9 := by
      have := (iN_le (x := -a) (y := -10) ⟨by omega, by omega⟩ ⟨by omega, by omega⟩).mp h
      omega
    refine lv_bipush (v := iN 10) X.1 X.2.1 db_ss_31 (by decide) ?_
    refine lv_iload_n (i := 2) (x := iN (-10)) X.1 X.2.1 db_ss_33 rfl (lv_at hl5 1 rfl) ?_
    refine lv_imul X.1 X.2.1 db_ss_34 ?_
    rw [iN_mul]
    refine lv_istore_n (i := 2) (lv' := [(2, .int (iN (10 * (-10)))), (3, .int (iN 1)), (0, .int (iN (-a))), (1, .int (iN 0))]) X.1 X.2.1 db_ss_35 rfl hl5 (by decide) rfl (fun ls6 hl6 => ?_)
    refine lv_iinc (k := 1) (x := iN 1) (v := iN (1 + 1)) (lv' := [(3, .int (iN (1 + 1))), (2, .int (iN (10 * (-10)))), (0, .int (iN (-a))), (1, .int (iN 0))]) X.1 X.2.1 db_ss_36 hl6 rfl (iN_add _ _) (by decide) rfl (fun ls7 hl7 => ?_)
    refine lv_goto (tgt := 16) X.1 X.2.1 db_ss_39 (by decide) ?_
    refine lv_iload_n (i := 3) (x := iN (1 + 1)) X.1 X.2.1 db_ss_16 rfl (lv_at hl7 0 rfl) ?_
    refine lv_bipush (v := iN 10) X.1 X.2.1 db_ss_17 (by decide) ?_
    refine lv_icmp_ge (tgt := 42) X.1 X.2.1 db_ss_19 (by decide) (fun h => absurd h (by decide)) (fun _ => ?_)
    refine lv_iload_n (i := 0) (x := iN (-a)) X.1 X.2.1 db_ss_22 rfl (lv_at hl7 2 rfl) ?_
    refine lv_iload_n (i := 2) (x := iN (10 * (-10))) X.1 X.2.1 db_ss_23 rfl (lv_at hl7 1 rfl) ?_
    refine lv_icmp_le (tgt := 31) X.1 X.2.1 db_ss_24 (by decide) (fun h => absurd h (fun z => by
      have := (iN_le (x := -a) (y := 10 * -10) ⟨by omega, by omega⟩ ⟨by omega, by omega⟩).mp z
      omega)) (fun _ => ?_)
    refine lv_iload_n (i := 3) (x := iN (1 + 1)) X.1 X.2.1 db_ss_27 rfl (lv_at hl7 0 rfl) ?_
    refine lv_iload_n (i := 1) (x := iN 0) X.1 X.2.1 db_ss_28 rfl (lv_at hl7 3 rfl) ?_
    refine lv_iadd X.1 X.2.1 db_ss_29 ?_
    rw [iN_add]
    exact b_zret (v := iN (1 + 1 + 0)) X hret (by first | rfl | exact vp_nar_int _) hlk g ⟨by rw [if_neg h2]; rfl, rfl⟩ (by omega) (by omega) db_ss_30
  · have h2 : a ≤ 9 := by
      have z : ¬ -a ≤ -10 := fun z => h ((iN_le (x := -a) (y := -10) ⟨by omega, by omega⟩ ⟨by omega, by omega⟩).mpr z)
      omega
    refine lv_iload_n (i := 3) (x := iN 1) X.1 X.2.1 db_ss_27 rfl (lv_at hl5 0 rfl) ?_
    refine lv_iload_n (i := 1) (x := iN 0) X.1 X.2.1 db_ss_28 rfl (lv_at hl5 3 rfl) ?_
    refine lv_iadd X.1 X.2.1 db_ss_29 ?_
    rw [iN_add]
    exact b_zret (v := iN (1 + 0)) X hret (by first | rfl | exact vp_nar_int _) hlk g ⟨by rw [if_pos h2]; rfl, rfl⟩ (by omega) (by omega) db_ss_30
def yb_gc : MethodName := ⟨"java/lang/Integer", "getChars", "(II[B)I"⟩
set_option maxRecDepth 100000 in
theorem db_gc_0 : decode prog_23_method_12_code 0 = .ok (.iload_n 1, 1) := rfl
set_option maxRecDepth 100000 in
theorem db_gc_1 : decode prog_23_method_12_code 1 = .ok (.istore 5, 2) := rfl
set_option maxRecDepth 100000 in
theorem db_gc_3 : decode prog_23_method_12_code 3 = .ok (.iload_n 0, 1) := rfl
set_option maxRecDepth 100000 in
theorem db_gc_4 : decode prog_23_method_12_code 4 = .ok (.ifCond .ge 7, 3) := rfl
set_option maxRecDepth 100000 in
theorem db_gc_11 : decode prog_23_method_12_code 11 = .ok (.iconst 0, 1) := rfl
set_option maxRecDepth 100000 in
theorem db_gc_12 : decode prog_23_method_12_code 12 = .ok (.istore 6, 2) := rfl
set_option maxRecDepth 100000 in
theorem db_gc_14 : decode prog_23_method_12_code 14 = .ok (.iload 6, 2) := rfl
set_option maxRecDepth 100000 in
theorem db_gc_16 : decode prog_23_method_12_code 16 = .ok (.ifCond .ne 6, 3) := rfl
set_option maxRecDepth 100000 in
theorem db_gc_19 : decode prog_23_method_12_code 19 = .ok (.iload_n 0, 1) := rfl
set_option maxRecDepth 100000 in
theorem db_gc_20 : decode prog_23_method_12_code 20 = .ok (.ineg, 1) := rfl
set_option maxRecDepth 100000 in
theorem db_gc_21 : decode prog_23_method_12_code 21 = .ok (.istore_n 0, 1) := rfl
set_option maxRecDepth 100000 in
theorem db_gc_22 : decode prog_23_method_12_code 22 = .ok (.iload_n 0, 1) := rfl
set_option maxRecDepth 100000 in
theorem db_gc_23 : decode prog_23_method_12_code 23 = .ok (.bipush (-100), 2) := rfl
set_option maxRecDepth 100000 in
theorem db_gc_25 : decode prog_23_method_12_code 25 = .ok (.if_icmp .gt 47, 3) := rfl
set_option maxRecDepth 100000 in
theorem db_gc_72 : decode prog_23_method_12_code 72 = .ok (.aload_n 2, 1) := rfl
set_option maxRecDepth 100000 in
theorem db_gc_73 : decode prog_23_method_12_code 73 = .ok (.iinc 5 (-1), 3) := rfl
set_option maxRecDepth 100000 in
theorem db_gc_76 : decode prog_23_method_12_code 76 = .ok (.iload 5, 2) := rfl
set_option maxRecDepth 100000 in
theorem dg_DigitOnes : Cond.fieldLink "java/lang/Integer" 83 "java/lang/Integer" "DigitOnes" "[B" ∈ gW := gW_at (i := 1549) rfl rfl
set_option maxRecDepth 100000 in
theorem db_gc_78 : decode prog_23_method_12_code 78 = .ok (.getstatic 83, 3) := rfl
set_option maxRecDepth 100000 in
theorem db_gc_81 : decode prog_23_method_12_code 81 = .ok (.iload_n 0, 1) := rfl
set_option maxRecDepth 100000 in
theorem db_gc_82 : decode prog_23_method_12_code 82 = .ok (.ineg, 1) := rfl
set_option maxRecDepth 100000 in
theorem db_gc_83 : decode prog_23_method_12_code 83 = .ok (.baload, 1) := rfl
set_option maxRecDepth 100000 in
theorem db_gc_84 : decode prog_23_method_12_code 84 = .ok (.bastore, 1) := rfl
set_option maxRecDepth 100000 in
theorem db_gc_85 : decode prog_23_method_12_code 85 = .ok (.iload_n 0, 1) := rfl
set_option maxRecDepth 100000 in
theorem db_gc_86 : decode prog_23_method_12_code 86 = .ok (.bipush (-9), 2) := rfl
set_option maxRecDepth 100000 in
theorem db_gc_88 : decode prog_23_method_12_code 88 = .ok (.if_icmp .ge 16, 3) := rfl
set_option maxRecDepth 100000 in
theorem db_gc_104 : decode prog_23_method_12_code 104 = .ok (.iload 6, 2) := rfl
set_option maxRecDepth 100000 in
theorem db_gc_106 : decode prog_23_method_12_code 106 = .ok (.ifCond .eq 12, 3) := rfl
set_option maxRecDepth 100000 in
theorem db_gc_118 : decode prog_23_method_12_code 118 = .ok (.iload 5, 2) := rfl
set_option maxRecDepth 100000 in
theorem db_gc_120 : decode prog_23_method_12_code 120 = .ok (.ireturn, 1) := rfl
set_option maxRecDepth 100000 in
theorem db_gc_91 : decode prog_23_method_12_code 91 = .ok (.aload_n 2, 1) := rfl
set_option maxRecDepth 100000 in
theorem db_gc_92 : decode prog_23_method_12_code 92 = .ok (.iinc 5 (-1), 3) := rfl
set_option maxRecDepth 100000 in
theorem db_gc_95 : decode prog_23_method_12_code 95 = .ok (.iload 5, 2) := rfl
set_option maxRecDepth 100000 in
theorem dg_DigitTens : Cond.fieldLink "java/lang/Integer" 87 "java/lang/Integer" "DigitTens" "[B" ∈ gW := gW_at (i := 1551) rfl rfl
set_option maxRecDepth 100000 in
theorem db_gc_97 : decode prog_23_method_12_code 97 = .ok (.getstatic 87, 3) := rfl
set_option maxRecDepth 100000 in
theorem db_gc_100 : decode prog_23_method_12_code 100 = .ok (.iload_n 0, 1) := rfl
set_option maxRecDepth 100000 in
theorem db_gc_101 : decode prog_23_method_12_code 101 = .ok (.ineg, 1) := rfl
set_option maxRecDepth 100000 in
theorem db_gc_102 : decode prog_23_method_12_code 102 = .ok (.baload, 1) := rfl
set_option maxRecDepth 100000 in
theorem db_gc_103 : decode prog_23_method_12_code 103 = .ok (.bastore, 1) := rfl
set_option maxHeartbeats 4000000 in
set_option maxRecDepth 100000 in
theorem b_getChars {a i : Int} (h0 : 0 ≤ a) (h1 : a ≤ 99) : BC yb_gc prog_23_method_12_code 7 (some .int) 0 0 0 0 bs (fun x adr => [.int (iN a), .int (iN i), .ref (xB x)]) (fun x => (if a ≤ 9 then 1 else 2) ≤ i ∧ i ≤ (xC x : Int)) (fun x v x' => v = some (.int (iN (if a ≤ 9 then i + (-1) else i + (-1) + (-1)))) ∧ xC x' = xC x ∧ xN x' = xN x ∧ xB x' = xB x ∧ xT x' = (if a ≤ 9 then tset (xT x) (i + (-1)).toNat ((a.toNat % 10 + 48 : Nat) : Int) else tset (tset (xT x) (i + (-1)).toNat ((a.toNat % 10 + 48 : Nat) : Int)) (i + (-1) + (-1)).toNat ((a.toNat / 10 + 48 : Nat) : Int))) := by
  refine bc_of (by decide) rfl (fun _ _ => by simp [lg_sl, Value.category]) ?_
  intro p l e s m args below meth c D tA n0 adr adV sz x ls hP X hz g hret hlk hl
  have hl : lv_has ls 7 [(0, .int (iN a)), (1, .int (iN i)), (2, .ref (xB x))] := hl
  have hC : xC x ≤ 142 := by rcases g.2.2.1.1 with h | h | h | h <;> omega
  obtain ⟨hi, hi2⟩ := hP
  have hi1 : 1 ≤ i := by
    by_cases h : a ≤ 9
    · rw [if_pos h] at hi; exact hi
    · rw [if_neg h] at hi; omega
  obtain ⟨d1, d2, ⟨z1, t1⟩, z2, t2⟩ := hz.2.2.2.1
  refine lv_iload_n (i := 1) (x := iN i) X.1 X.2.1 db_gc_0 rfl (lv_at hl 1 rfl) ?_
  refine lv_istore (lv' := [(5, .int (iN i)), (0, .int (iN a)), (1, .int (iN i)), (2, .ref (xB x))]) X.1 X.2.1 db_gc_1 hl (by decide) rfl (fun ls1 hl1 => ?_)
  refine lv_iload_n (i := 0) (x := iN a) X.1 X.2.1 db_gc_3 rfl (lv_at hl1 1 rfl) ?_
  refine lv_if_ge (tgt := 11) X.1 X.2.1 db_gc_4 (by decide) (fun _ => ?_) (fun h => absurd ((iN_le inR_0 (y := a) ⟨by omega, by omega⟩).mpr h0) h)
  refine lv_iconst (v := iN 0) X.1 X.2.1 db_gc_11 (by decide) ?_
  refine lv_istore (lv' := [(6, .int (iN 0)), (5, .int (iN i)), (0, .int (iN a)), (1, .int (iN i)), (2, .ref (xB x))]) X.1 X.2.1 db_gc_12 hl1 (by decide) rfl (fun ls2 hl2 => ?_)
  refine lv_iload (x := iN 0) X.1 X.2.1 db_gc_14 (lv_at hl2 0 rfl) ?_
  refine lv_if_ne (tgt := 22) X.1 X.2.1 db_gc_16 (by decide) (fun h => absurd h (fun z => z rfl)) (fun _ => ?_)
  refine lv_iload_n (i := 0) (x := iN a) X.1 X.2.1 db_gc_19 rfl (lv_at hl2 2 rfl) ?_
  refine lv_ineg X.1 X.2.1 db_gc_20 ?_
  rw [iN_neg]
  refine lv_istore_n (i := 0) (lv' := [(0, .int (iN (-a))), (6, .int (iN 0)), (5, .int (iN i)), (1, .int (iN i)), (2, .ref (xB x))]) X.1 X.2.1 db_gc_21 rfl hl2 (by decide) rfl (fun ls3 hl3 => ?_)
  refine lv_iload_n (i := 0) (x := iN (-a)) X.1 X.2.1 db_gc_22 rfl (lv_at hl3 0 rfl) ?_
  refine lv_bipush (v := iN (-100)) X.1 X.2.1 db_gc_23 (by decide) ?_
  refine lv_icmp_gt (tgt := 72) X.1 X.2.1 db_gc_25 (by decide) (fun _ => ?_) (fun h => absurd ((iN_lt (x := -100) (y := -a) ⟨by omega, by omega⟩ ⟨by omega, by omega⟩).mpr (by omega)) h)
  refine lv_aload_n (i := 2) (x := (xB x)) X.1 X.2.1 db_gc_72 rfl (lv_at hl3 4 rfl) ?_
  refine lv_iinc (k := 2) (x := iN i) (v := iN (i + (-1))) (lv' := [(5, .int (iN (i + (-1)))), (0, .int (iN (-a))), (6, .int (iN 0)), (1, .int (iN i)), (2, .ref (xB x))]) X.1 X.2.1 db_gc_73 hl3 rfl (iN_add _ _) (by decide) rfl (fun ls4 hl4 => ?_)
  refine lv_iload (x := iN (i + (-1))) X.1 X.2.1 db_gc_76 (lv_at hl4 0 rfl) ?_
  refine va_gets (ref := "java/lang/Integer") X.1 X.2.1 z1 (hz.S g) X.2.2.2.1 (X.2.2.2.2 _ dg_DigitOnes) (fun _ h => h) db_gc_78 ?_
  refine lv_iload_n (i := 0) (x := iN (-a)) X.1 X.2.1 db_gc_81 rfl (lv_at hl4 1 rfl) ?_
  refine lv_ineg X.1 X.2.1 db_gc_82 ?_
  rw [iN_neg]
  rw [Int.neg_neg]
  refine va_tb X.1 X.2.1 t1 (hz.S g) (iN_in h0 (n := 100) (by omega) (by omega)) (by rw [iN_clamp h0 (by omega)]) db_gc_83 ?_
  refine b_ast X hz g (by omega) (by omega) (by omega) (by omega) db_gc_84 (fun H1 lc1 g1 => ?_)
  refine lv_iload_n (i := 0) (x := iN (-a)) X.1 X.2.1 db_gc_85 rfl (lv_at hl4 1 rfl) ?_
  refine lv_bipush (v := iN (-9)) X.1 X.2.1 db_gc_86 (by decide) ?_
  refine lv_icmp_ge (tgt := 104) X.1 X.2.1 db_gc_88 (by decide) (fun h => ?_) (fun h => ?_)
  · have h2 : a ≤ 9 := by
      have := (iN_le (x := -9) (y := -a) ⟨by omega, by omega⟩ ⟨by omega, by omega⟩).mp h
      omega
    refine lv_iload (x := iN 0) X.1 X.2.1 db_gc_104 (lv_at hl4 2 rfl) ?_
    refine lv_if_eq (tgt := 118) X.1 X.2.1 db_gc_106 (by decide) (fun _ => ?_) (fun h => absurd rfl h)
    refine lv_iload (x := iN (i + (-1))) X.1 X.2.1 db_gc_118 (lv_at hl4 0 rfl) ?_
    exact b_zret (v := iN (i + (-1))) X hret (by first | rfl | exact vp_nar_int _) hlk g1 ⟨by rw [if_pos h2], by rw [if_pos h2]; exact ⟨rfl, rfl, rfl, rfl⟩⟩ (by omega) (by omega) db_gc_120
  · have h2 : ¬ a ≤ 9 := fun z => h ((iN_le (x := -9) (y := -a) ⟨by omega, by omega⟩ ⟨by omega, by omega⟩).mpr (by omega))
    have h3 : 2 ≤ i := by rw [if_neg h2] at hi; exact hi
    refine lv_aload_n (i := 2) (x := (xB x)) X.1 X.2.1 db_gc_91 rfl (lv_at hl4 4 rfl) ?_
    refine lv_iinc (k := 0) (x := iN (i + (-1))) (v := iN ((i + (-1)) + (-1))) (lv' := [(5, .int (iN ((i + (-1)) + (-1)))), (0, .int (iN (-a))), (6, .int (iN 0)), (1, .int (iN i)), (2, .ref (xB x))]) X.1 X.2.1 db_gc_92 hl4 rfl (iN_add _ _) (by decide) rfl (fun ls5 hl5 => ?_)
    refine lv_iload (x := iN ((i + (-1)) + (-1))) X.1 X.2.1 db_gc_95 (lv_at hl5 0 rfl) ?_
    refine va_gets (ref := "java/lang/Integer") X.1 X.2.1 z2 (hz.S g1) X.2.2.2.1 (X.2.2.2.2 _ dg_DigitTens) (fun _ h => h) db_gc_97 ?_
    refine lv_iload_n (i := 0) (x := iN (-a)) X.1 X.2.1 db_gc_100 rfl (lv_at hl5 1 rfl) ?_
    refine lv_ineg X.1 X.2.1 db_gc_101 ?_
    rw [iN_neg]
    rw [Int.neg_neg]
    refine va_tb X.1 X.2.1 t2 (hz.S g1) (iN_in h0 (n := 100) (by omega) (by omega)) (by rw [iN_clamp h0 (by omega)]) db_gc_102 ?_
    refine b_ast (x := (xB x, xC x, xN x, xM x, tset (xT x) (i + (-1)).toNat ((a.toNat % 10 + 48 : Nat) : Int))) X hz g1 (by omega) (by show i + (-1) + (-1) < (xC x : Int); omega) (by omega) (by omega) db_gc_103 (fun H2 lc2 g2 => ?_)
    refine lv_iload (x := iN 0) X.1 X.2.1 db_gc_104 (lv_at hl5 2 rfl) ?_
    refine lv_if_eq (tgt := 118) X.1 X.2.1 db_gc_106 (by decide) (fun _ => ?_) (fun h => absurd rfl h)
    refine lv_iload (x := iN ((i + (-1)) + (-1))) X.1 X.2.1 db_gc_118 (lv_at hl5 0 rfl) ?_
    exact b_zret (v := iN (i + (-1) + (-1))) X hret (by first | rfl | exact vp_nar_int _) hlk g2 ⟨by rw [if_neg h2], by rw [if_neg h2]; exact ⟨rfl, rfl, rfl, rfl⟩⟩ (by omega) (by omega) db_gc_120
def yb_ai : MethodName := ⟨"java/lang/AbstractStringBuilder", "append", "(I)Ljava/lang/AbstractStringBuilder;"⟩
set_option maxRecDepth 100000 in
theorem db_ai_0 : decode prog_16_method_32_code 0 = .ok (.aload_n 0, 1) := rfl
set_option maxRecDepth 100000 in
theorem db_ai_1 : decode prog_16_method_32_code 1 = .ok (.getfield 79, 3) := rfl
set_option maxRecDepth 100000 in
theorem db_ai_4 : decode prog_16_method_32_code 4 = .ok (.istore_n 2, 1) := rfl
set_option maxRecDepth 100000 in
theorem db_ai_5 : decode prog_16_method_32_code 5 = .ok (.iload_n 2, 1) := rfl
set_option maxRecDepth 100000 in
theorem db_ai_6 : decode prog_16_method_32_code 6 = .ok (.iload_n 1, 1) := rfl
set_option maxRecDepth 100000 in
theorem wb_6 : BWd 1 "java/lang/AbstractStringBuilder" 245 yb_ss prog_23_method_13_code 4 (some .int) "java/lang/AbstractStringBuilder" 1 := ⟨⟨⟨gW_at (i := 1543) rfl rfl, gW_at (i := 128) rfl rfl, gW_at (i := 1545) rfl rfl⟩, ⟨by decide, by decide, rfl⟩, by decide⟩, gW_at (i := 1544) rfl rfl⟩
set_option maxRecDepth 100000 in
theorem db_ai_7 : decode prog_16_method_32_code 7 = .ok (.invokestatic 245, 3) := rfl
set_option maxRecDepth 100000 in
theorem db_ai_10 : decode prog_16_method_32_code 10 = .ok (.iadd, 1) := rfl
set_option maxRecDepth 100000 in
theorem db_ai_11 : decode prog_16_method_32_code 11 = .ok (.istore_n 3, 1) := rfl
set_option maxRecDepth 100000 in
theorem db_ai_12 : decode prog_16_method_32_code 12 = .ok (.aload_n 0, 1) := rfl
set_option maxRecDepth 100000 in
theorem db_ai_13 : decode prog_16_method_32_code 13 = .ok (.iload_n 3, 1) := rfl
set_option maxRecDepth 100000 in
theorem db_ai_14 : decode prog_16_method_32_code 14 = .ok (.invokevirtual 100, 3) := rfl
set_option maxRecDepth 100000 in
theorem db_ai_17 : decode prog_16_method_32_code 17 = .ok (.aload_n 0, 1) := rfl
set_option maxRecDepth 100000 in
theorem db_ai_18 : decode prog_16_method_32_code 18 = .ok (.invokevirtual 83, 3) := rfl
set_option maxRecDepth 100000 in
theorem db_ai_21 : decode prog_16_method_32_code 21 = .ok (.ifCond .eq 16, 3) := rfl
set_option maxRecDepth 100000 in
theorem db_ai_24 : decode prog_16_method_32_code 24 = .ok (.iload_n 1, 1) := rfl
set_option maxRecDepth 100000 in
theorem db_ai_25 : decode prog_16_method_32_code 25 = .ok (.iload_n 3, 1) := rfl
set_option maxRecDepth 100000 in
theorem db_ai_26 : decode prog_16_method_32_code 26 = .ok (.aload_n 0, 1) := rfl
set_option maxRecDepth 100000 in
theorem db_ai_27 : decode prog_16_method_32_code 27 = .ok (.getfield 15, 3) := rfl
set_option maxRecDepth 100000 in
theorem wb_7 : BWd 1 "java/lang/AbstractStringBuilder" 248 yb_gc prog_23_method_12_code 7 (some .int) "java/lang/AbstractStringBuilder" 3 := ⟨⟨⟨gW_at (i := 1546) rfl rfl, gW_at (i := 128) rfl rfl, gW_at (i := 1548) rfl rfl⟩, ⟨by decide, by decide, rfl⟩, by decide⟩, gW_at (i := 1547) rfl rfl⟩
set_option maxRecDepth 100000 in
theorem db_ai_30 : decode prog_16_method_32_code 30 = .ok (.invokestatic 248, 3) := rfl
set_option maxRecDepth 100000 in
theorem db_ai_33 : decode prog_16_method_32_code 33 = .ok (.pop, 1) := rfl
set_option maxRecDepth 100000 in
theorem db_ai_34 : decode prog_16_method_32_code 34 = .ok (.goto 14, 3) := rfl
set_option maxRecDepth 100000 in
theorem db_ai_48 : decode prog_16_method_32_code 48 = .ok (.aload_n 0, 1) := rfl
set_option maxRecDepth 100000 in
theorem db_ai_49 : decode prog_16_method_32_code 49 = .ok (.iload_n 3, 1) := rfl
set_option maxRecDepth 100000 in
theorem db_ai_50 : decode prog_16_method_32_code 50 = .ok (.putfield 79, 3) := rfl
set_option maxRecDepth 100000 in
theorem db_ai_53 : decode prog_16_method_32_code 53 = .ok (.aload_n 0, 1) := rfl
set_option maxRecDepth 100000 in
theorem db_ai_54 : decode prog_16_method_32_code 54 = .ok (.areturn, 1) := rfl
set_option maxHeartbeats 4000000 in
set_option maxRecDepth 100000 in
theorem b_appI0 {a : Int} (h0 : 0 ≤ a) (h1 : a ≤ 99) : BC yb_ai prog_16_method_32_code 4 (some (.object "java/lang/AbstractStringBuilder")) 6 600 1 142 bs (fun x adr => [.ref bs, .int (iN a)]) (fun x => xN x ≤ 140) (fun x v x' => v = some (.ref bs) ∧ (∀ j, j < xN x → xT x' j = xT x j) ∧ if a ≤ 9 then xN x' = xN x + 1 ∧ xT x' (xN x) = 48 + a else xN x' = xN x + 2 ∧ xT x' (xN x) = 48 + a / 10 ∧ xT x' (xN x + 1) = 48 + a % 10) := by
  refine bc_of (by decide) rfl (fun _ _ => by simp [lg_sl, Value.category]) ?_
  intro p l e s m args below meth c D tA n0 adr adV sz x ls hP X hz g hret hlk hl
  have hl : lv_has ls 4 [(0, .ref bs), (1, .int (iN a))] := hl
  have hN0 := g.2.2.1.2.1
  have hC : xC x ≤ 142 := by rcases g.2.2.1.1 with h | h | h | h <;> omega
  refine lv_aload_n (i := 0) (x := bs) X.1 X.2.1 db_ai_0 rfl (lv_at hl 0 rfl) ?_
  refine b_get (k := 3) X hz g (by decide) fb_1 rfl db_ai_1 ?_
  refine lv_istore_n (i := 2) (lv' := [(2, .int (iN (xN x : Int))), (0, .ref bs), (1, .int (iN a))]) X.1 X.2.1 db_ai_4 rfl hl (by decide) rfl (fun ls1 hl1 => ?_)
  refine lv_iload_n (i := 2) (x := iN (xN x : Int)) X.1 X.2.1 db_ai_5 rfl (lv_at hl1 0 rfl) ?_
  refine lv_iload_n (i := 1) (x := iN a) X.1 X.2.1 db_ai_6 rfl (lv_at hl1 2 rfl) ?_
  refine b_callS (As := [.int (iN a)]) (rest := [.int (iN (xN x : Int))]) X hz g (b_strSize h0 h1) trivial wb_6 rfl rfl hl1.1 ⟨by decide, by decide⟩ ⟨by decide, by decide⟩ (by simp [Value.category]) rfl db_ai_7 (fun v x1 H1 lc1 hv1 g1 => ?_)
  obtain ⟨rfl, rfl⟩ := hv1
  generalize hk : (if a ≤ 9 then (1 : Int) else 2) = k
  have hk2 : 1 ≤ k ∧ k ≤ 2 := by rw [← hk]; split <;> omega
  refine lv_iadd X.1 X.2.1 db_ai_10 ?_
  rw [iN_add]
  refine lv_istore_n (i := 3) (lv' := [(3, .int (iN ((xN x1 : Int) + k))), (2, .int (iN (xN x1 : Int))), (0, .ref bs), (1, .int (iN a))]) X.1 X.2.1 db_ai_11 rfl hl1 (by decide) rfl (fun ls2 hl2 => ?_)
  refine lv_aload_n (i := 0) (x := bs) X.1 X.2.1 db_ai_12 rfl (lv_at hl2 2 rfl) ?_
  refine lv_iload_n (i := 3) (x := iN ((xN x1 : Int) + k)) X.1 X.2.1 db_ai_13 rfl (lv_at hl2 0 rfl) ?_
  refine b_callP (As := [.int (iN ((xN x1 : Int) + k))]) (rest := []) X hz g1 (b_ensure (a := (xN x1 : Int) + k) (by omega) (by omega)) (by omega) wb_3 rfl rfl hl2.1 ⟨by decide, by decide⟩ ⟨by decide, by decide⟩ (by simp [Value.category]) rfl db_ai_14 (fun v x2 H2 lc2 hv2 g2 => ?_)
  obtain ⟨rfl, hv2, hv3, hv4⟩ := hv2
  refine lv_aload_n (i := 0) (x := bs) X.1 X.2.1 db_ai_17 rfl (lv_at hl2 2 rfl) ?_
  refine b_callV (As := []) (rest := []) X hz g2 (b_latin) trivial wb_4 rfl rfl (b_recv hz g2) hl2.1 ⟨by decide, by decide⟩ ⟨by decide, by decide⟩ (by simp [Value.category]) rfl db_ai_18 (fun v x3 H3 lc3 hw3 g3 => ?_)
  obtain ⟨rfl, rfl⟩ := hw3
  refine lv_if_eq (tgt := 37) X.1 X.2.1 db_ai_21 (by decide) (fun h => absurd h (by decide)) (fun _ => ?_)
  refine lv_iload_n (i := 1) (x := iN a) X.1 X.2.1 db_ai_24 rfl (lv_at hl2 3 rfl) ?_
  refine lv_iload_n (i := 3) (x := iN ((xN x1 : Int) + k)) X.1 X.2.1 db_ai_25 rfl (lv_at hl2 0 rfl) ?_
  refine lv_aload_n (i := 0) (x := bs) X.1 X.2.1 db_ai_26 rfl (lv_at hl2 2 rfl) ?_
  refine b_get (k := 0) X hz g3 (by decide) fb_2 rfl db_ai_27 ?_
  refine b_callS (As := [.int (iN a), .int (iN ((xN x1 : Int) + k)), .ref (xB x3)]) (rest := []) X hz g3 (b_getChars (a := a) (i := (xN x1 : Int) + k) h0 h1) ⟨by omega, hv2⟩ wb_7 rfl rfl hl2.1 ⟨by decide, by decide⟩ ⟨by decide, by decide⟩ (by simp [Value.category]) rfl db_ai_30 (fun v x4 H4 lc4 hw4 g4 => ?_)
  obtain ⟨rfl, c1, c2, c3, c4⟩ := hw4
  refine lv_pop X.1 X.2.1 db_ai_33 rfl ?_
  refine lv_goto (tgt := 48) X.1 X.2.1 db_ai_34 (by decide) ?_
  refine lv_aload_n (i := 0) (x := bs) X.1 X.2.1 db_ai_48 rfl (lv_at hl2 2 rfl) ?_
  refine lv_iload_n (i := 3) (x := iN ((xN x1 : Int) + k)) X.1 X.2.1 db_ai_49 rfl (lv_at hl2 0 rfl) ?_
  have hT4 := g4.2.2.1
  refine b_put (k := 3) (ty := .int) (x' := (xB x4, xC x4, xN x1 + k.toNat, xM x4, xT x4)) X hz g4 (by decide) fb_1 rfl rfl (vp_nar_int _) rfl db_ai_50 ⟨hT4.1, by show xN x1 + k.toNat ≤ xC x4; omega, hT4.2.2⟩ rfl (by show _ = [Value.ref (xB x4), .int (iN 0), .int (xM x4), .int (iN ((xN x1 + k.toNat : Nat) : Int))]; rw [show ((xN x1 + k.toNat : Nat) : Int) = (xN x1 : Int) + k by omega]; rfl) rfl (fun H5 lc5 g5 => ?_)
  refine lv_aload_n (i := 0) (x := bs) X.1 X.2.1 db_ai_53 rfl (lv_at hl2 2 rfl) ?_
  have hR : ∀ j, j < xN x1 → xT x4 j = xT x1 j := fun j hj => by
    rw [c4]
    split
    · rw [tset_ne (by omega)]; exact hv4 j (by omega)
    · rw [tset_ne (by omega), tset_ne (by omega)]; exact hv4 j (by omega)
  by_cases h9 : a ≤ 9
  · rw [if_pos h9] at hk c4
    exact b_aret X hret hlk g5 ⟨rfl, hR, by rw [if_pos h9]; exact ⟨by show xN x1 + k.toNat = _; omega, by show xT x4 _ = _; rw [c4, show ((xN x1 : Int) + k + (-1)).toNat = xN x1 by omega, tset_eq]; omega⟩⟩ (by omega) (by omega) db_ai_54
  · rw [if_neg h9] at hk c4
    exact b_aret X hret hlk g5 ⟨rfl, hR, by rw [if_neg h9]; exact ⟨by show xN x1 + k.toNat = _; omega, by show xT x4 _ = _; rw [c4, show ((xN x1 : Int) + k + (-1) + (-1)).toNat = xN x1 by omega, tset_eq]; omega, by show xT x4 _ = _; rw [c4, show ((xN x1 : Int) + k + (-1)).toNat = xN x1 + 1 by omega, tset_ne (by omega), tset_eq]; omega⟩⟩ (by omega) (by omega) db_ai_54
end B2

/-! THE BUILDER, 5: a text put behind; a sign read (printed by wip/whole/g7b.py). -/
/-- the text 'timber ' -/
def tbW : List Int := [116, 105, 109, 98, 101, 114, 32]
theorem tbW_b : ∀ j, j < 7 → (strByt.getD 6 []).getD j 0 = iN (tbW.getD j 0) := by decide +kernel
theorem tbW_in : ∀ j, 0 ≤ tbW.getD j 0 ∧ tbW.getD j 0 ≤ 127 := fun j => by
  rcases Nat.lt_or_ge j 7 with h | h
  · exact (show ∀ j, j < 7 → 0 ≤ tbW.getD j 0 ∧ tbW.getD j 0 ≤ 127 by decide +kernel) j h
  · have e : tbW.getD j 0 = 0 := by rw [List.getD_eq_getElem?_getD, List.getElem?_eq_none (by show 7 ≤ j; omega)]; rfl
    rw [e]; omega
def cpT (T : Nat → Int) (i : Nat) : Nat → Int := fun k => if i ≤ k ∧ k < i + 7 then tbW.getD (k - i) 0 else T k
theorem cpT_ok {T : Nat → Int} {i : Nat} (h : tOk T) : tOk (cpT T i) := fun k => by
  unfold cpT
  split
  · exact tbW_in _
  · exact h k
section B2
variable {bs : Nat}
def yb_sc : MethodName := ⟨"java/lang/String", "coder", "()B"⟩
set_option maxRecDepth 100000 in
theorem cs_sc : Cond.fieldLink "java/lang/String" 38 "java/lang/String" "COMPACT_STRINGS" "Z" ∈ gW := gW_at (i := 1025) rfl rfl
set_option maxRecDepth 100000 in
theorem db_sc_0 : decode prog_27_method_152_code 0 = .ok (.getstatic 38, 3) := rfl
set_option maxRecDepth 100000 in
theorem db_sc_3 : decode prog_27_method_152_code 3 = .ok (.ifCond .eq 10, 3) := rfl
set_option maxRecDepth 100000 in
theorem db_sc_6 : decode prog_27_method_152_code 6 = .ok (.aload_n 0, 1) := rfl
set_option maxRecDepth 100000 in
theorem sf_sc_coder_7 : Cond.fieldLink "java/lang/String" 15 "java/lang/String" "coder" "B" ∈ gW := gW_at (i := 1623) rfl rfl
set_option maxRecDepth 100000 in
theorem db_sc_7 : decode prog_27_method_152_code 7 = .ok (.getfield 15, 3) := rfl
set_option maxRecDepth 100000 in
theorem db_sc_10 : decode prog_27_method_152_code 10 = .ok (.goto 4, 3) := rfl
set_option maxRecDepth 100000 in
theorem db_sc_14 : decode prog_27_method_152_code 14 = .ok (.ireturn, 1) := rfl
set_option maxHeartbeats 4000000 in
set_option maxRecDepth 100000 in
theorem b_scoder : BC yb_sc prog_27_method_152_code 1 (some .byte) 0 0 0 0 bs (fun x adr => [.ref (adr (NN + 6))]) (fun x => True) (fun x v x' => v = some (.int (iN 0)) ∧ x' = x) := by
  refine bc_of (by decide) rfl (fun _ _ => by simp [lg_sl, Value.category]) ?_
  intro p l e s m args below meth c D tA n0 adr adV sz x ls hP X hz g hret hlk hl
  have hl : lv_has ls 1 [(0, .ref (adr (NN + 6)))] := hl
  refine va_gets (ref := "java/lang/String") X.1 X.2.1 hz.2.2.1.2.1.1 (hz.S g) X.2.2.2.1 (X.2.2.2.2 _ cs_sc) (fun _ h => h) db_sc_0 ?_
  refine lv_if_eq (tgt := 13) X.1 X.2.1 db_sc_3 (by decide) (fun h => absurd h (by decide)) (fun _ => ?_)
  refine lv_aload_n (i := 0) (x := (adr (NN + 6))) X.1 X.2.1 db_sc_6 rfl (lv_at hl 0 rfl) ?_
  refine vk_getf (ref := "java/lang/String") X.1 X.2.1 (hz.2.2.1.1.1 6 (by decide)).2.1 (hz.S g) X.2.2.2.1 (X.2.2.2.2 _ sf_sc_coder_7) (fun _ h => h) db_sc_7 ?_
  refine lv_goto (tgt := 14) X.1 X.2.1 db_sc_10 (by decide) ?_
  exact b_zret (v := iN 0) X hret (by first | rfl | exact vp_nar_int _) hlk g ⟨rfl, rfl⟩ (by omega) (by omega) db_sc_14
def yb_sn : MethodName := ⟨"java/lang/String", "length", "()I"⟩
set_option maxRecDepth 100000 in
theorem db_sn_0 : decode prog_27_method_54_code 0 = .ok (.aload_n 0, 1) := rfl
set_option maxRecDepth 100000 in
theorem sf_sn_value_1 : Cond.fieldLink "java/lang/String" 9 "java/lang/String" "value" "[B" ∈ gW := gW_at (i := 1622) rfl rfl
set_option maxRecDepth 100000 in
theorem db_sn_1 : decode prog_27_method_54_code 1 = .ok (.getfield 9, 3) := rfl
set_option maxRecDepth 100000 in
theorem db_sn_4 : decode prog_27_method_54_code 4 = .ok (.arraylength, 1) := rfl
set_option maxRecDepth 100000 in
theorem db_sn_5 : decode prog_27_method_54_code 5 = .ok (.aload_n 0, 1) := rfl
set_option maxRecDepth 100000 in
theorem wb_8 : BWd 0 "java/lang/String" 335 yb_sc prog_27_method_152_code 1 (some .byte) "java/lang/String" 0 := ⟨⟨⟨gW_at (i := 1021) rfl rfl, gW_at (i := 116) rfl rfl, gW_at (i := 1024) rfl rfl⟩, ⟨by decide, by decide, rfl⟩, by decide⟩, gW_at (i := 1022) rfl rfl, gW_at (i := 1023) rfl rfl⟩
set_option maxRecDepth 100000 in
theorem db_sn_6 : decode prog_27_method_54_code 6 = .ok (.invokevirtual 335, 3) := rfl
set_option maxRecDepth 100000 in
theorem db_sn_9 : decode prog_27_method_54_code 9 = .ok (.ishr, 1) := rfl
set_option maxRecDepth 100000 in
theorem db_sn_10 : decode prog_27_method_54_code 10 = .ok (.ireturn, 1) := rfl
set_option maxHeartbeats 4000000 in
set_option maxRecDepth 100000 in
theorem b_slength : BC yb_sn prog_27_method_54_code 1 (some .int) 1 40 0 0 bs (fun x adr => [.ref (adr (NN + 6))]) (fun x => True) (fun x v x' => v = some (.int (iN 7)) ∧ x' = x) := by
  refine bc_of (by decide) rfl (fun _ _ => by simp [lg_sl, Value.category]) ?_
  intro p l e s m args below meth c D tA n0 adr adV sz x ls hP X hz g hret hlk hl
  have hl : lv_has ls 1 [(0, .ref (adr (NN + 6)))] := hl
  refine lv_aload_n (i := 0) (x := (adr (NN + 6))) X.1 X.2.1 db_sn_0 rfl (lv_at hl 0 rfl) ?_
  refine vk_getf (ref := "java/lang/String") X.1 X.2.1 (hz.2.2.1.1.1 6 (by decide)).2.2.1 (hz.S g) X.2.2.2.1 (X.2.2.2.2 _ sf_sn_value_1) (fun _ h => h) db_sn_1 ?_
  refine va_tlen X.1 X.2.1 (hz.2.2.1.1.1 6 (by decide)).2.2.2 (hz.S g) (v := iN 7) (by decide) db_sn_4 ?_
  refine lv_aload_n (i := 0) (x := (adr (NN + 6))) X.1 X.2.1 db_sn_5 rfl (lv_at hl 0 rfl) ?_
  refine b_callV (As := []) (rest := [.int (iN 7)]) X hz g (b_scoder) trivial wb_8 rfl rfl (vk_recv hz.2.2.1.1 (i := 6) (by decide) (hz.S g)) hl.1 ⟨by decide, by decide⟩ ⟨by decide, by decide⟩ (by simp [Value.category]) rfl db_sn_6 (fun v x1 H1 lc1 hv1 g1 => ?_)
  obtain ⟨rfl, rfl⟩ := hv1
  refine lv_ishr X.1 X.2.1 db_sn_9 ?_
  rw [sh_r0]
  exact b_zret (v := iN 7) X hret (by first | rfl | exact vp_nar_int _) hlk g1 ⟨rfl, rfl⟩ (by omega) (by omega) db_sn_10
def yb_gb : MethodName := ⟨"java/lang/String", "getBytes", "([BIB)V"⟩
set_option maxRecDepth 100000 in
theorem db_gb_0 : decode prog_27_method_147_code 0 = .ok (.aload_n 0, 1) := rfl
set_option maxRecDepth 100000 in
theorem db_gb_1 : decode prog_27_method_147_code 1 = .ok (.invokevirtual 335, 3) := rfl
set_option maxRecDepth 100000 in
theorem db_gb_4 : decode prog_27_method_147_code 4 = .ok (.iload_n 3, 1) := rfl
set_option maxRecDepth 100000 in
theorem db_gb_5 : decode prog_27_method_147_code 5 = .ok (.if_icmp .ne 23, 3) := rfl
set_option maxRecDepth 100000 in
theorem db_gb_8 : decode prog_27_method_147_code 8 = .ok (.aload_n 0, 1) := rfl
set_option maxRecDepth 100000 in
theorem sf_gb_value_9 : Cond.fieldLink "java/lang/String" 9 "java/lang/String" "value" "[B" ∈ gW := gW_at (i := 1622) rfl rfl
set_option maxRecDepth 100000 in
theorem db_gb_9 : decode prog_27_method_147_code 9 = .ok (.getfield 9, 3) := rfl
set_option maxRecDepth 100000 in
theorem db_gb_12 : decode prog_27_method_147_code 12 = .ok (.iconst 0, 1) := rfl
set_option maxRecDepth 100000 in
theorem db_gb_13 : decode prog_27_method_147_code 13 = .ok (.aload_n 1, 1) := rfl
set_option maxRecDepth 100000 in
theorem db_gb_14 : decode prog_27_method_147_code 14 = .ok (.iload_n 2, 1) := rfl
set_option maxRecDepth 100000 in
theorem db_gb_15 : decode prog_27_method_147_code 15 = .ok (.iload_n 3, 1) := rfl
set_option maxRecDepth 100000 in
theorem db_gb_16 : decode prog_27_method_147_code 16 = .ok (.ishl, 1) := rfl
set_option maxRecDepth 100000 in
theorem db_gb_17 : decode prog_27_method_147_code 17 = .ok (.aload_n 0, 1) := rfl
set_option maxRecDepth 100000 in
theorem sf_gb_value_18 : Cond.fieldLink "java/lang/String" 9 "java/lang/String" "value" "[B" ∈ gW := gW_at (i := 1622) rfl rfl
set_option maxRecDepth 100000 in
theorem db_gb_18 : decode prog_27_method_147_code 18 = .ok (.getfield 9, 3) := rfl
set_option maxRecDepth 100000 in
theorem db_gb_21 : decode prog_27_method_147_code 21 = .ok (.arraylength, 1) := rfl
set_option maxRecDepth 100000 in
theorem ac_gb : Cond.methodLink "java/lang/String" 212 arraycopyName ∈ gW ∧ Cond.native arraycopyName ∈ gW ∧ Cond.static arraycopyName ∈ gW ∧ Cond.initialized "java/lang/System" ∈ gW := ⟨gW_at (i := 1534) rfl rfl, gW_at (i := 1456) rfl rfl, gW_at (i := 1455) rfl rfl, gW_at (i := 132) rfl rfl⟩
set_option maxRecDepth 100000 in
theorem db_gb_22 : decode prog_27_method_147_code 22 = .ok (.invokestatic 212, 3) := rfl
set_option maxRecDepth 100000 in
theorem db_gb_25 : decode prog_27_method_147_code 25 = .ok (.goto 18, 3) := rfl
set_option maxRecDepth 100000 in
theorem db_gb_43 : decode prog_27_method_147_code 43 = .ok (.return_, 1) := rfl
set_option maxHeartbeats 4000000 in
set_option maxRecDepth 100000 in
theorem b_getBytes {i : Int} : BC yb_gb prog_27_method_147_code 4 none 1 200 0 0 bs (fun x adr => [.ref (adr (NN + 6)), .ref (xB x), .int (iN i), .int (iN 0)]) (fun x => 0 ≤ i ∧ i + 7 ≤ (xC x : Int)) (fun x v x' => v = none ∧ xC x' = xC x ∧ xN x' = xN x ∧ xT x' = cpT (xT x) i.toNat) := by
  refine bc_of (by decide) rfl (fun _ _ => by simp [lg_sl, Value.category]) ?_
  intro p l e s m args below meth c D tA n0 adr adV sz x ls hP X hz g hret hlk hl
  have hl : lv_has ls 4 [(0, .ref (adr (NN + 6))), (1, .ref (xB x)), (2, .int (iN i)), (3, .int (iN 0))] := hl
  refine lv_aload_n (i := 0) (x := (adr (NN + 6))) X.1 X.2.1 db_gb_0 rfl (lv_at hl 0 rfl) ?_
  refine b_callV (As := []) (rest := []) X hz g (b_scoder) trivial wb_8 rfl rfl (vk_recv hz.2.2.1.1 (i := 6) (by decide) (hz.S g)) hl.1 ⟨by decide, by decide⟩ ⟨by decide, by decide⟩ (by simp [Value.category]) rfl db_gb_1 (fun v x1 H1 lc1 hv1 g1 => ?_)
  obtain ⟨rfl, rfl⟩ := hv1
  refine lv_iload_n (i := 3) (x := iN 0) X.1 X.2.1 db_gb_4 rfl (lv_at hl 3 rfl) ?_
  refine lv_icmp_ne (tgt := 28) X.1 X.2.1 db_gb_5 (by decide) (fun h => absurd h (fun z => z rfl)) (fun _ => ?_)
  refine lv_aload_n (i := 0) (x := (adr (NN + 6))) X.1 X.2.1 db_gb_8 rfl (lv_at hl 0 rfl) ?_
  refine vk_getf (ref := "java/lang/String") X.1 X.2.1 (hz.2.2.1.1.1 6 (by decide)).2.2.1 (hz.S g1) X.2.2.2.1 (X.2.2.2.2 _ sf_gb_value_9) (fun _ h => h) db_gb_9 ?_
  refine lv_iconst (v := iN 0) X.1 X.2.1 db_gb_12 (by decide) ?_
  refine lv_aload_n (i := 1) (x := (xB x1)) X.1 X.2.1 db_gb_13 rfl (lv_at hl 1 rfl) ?_
  refine lv_iload_n (i := 2) (x := iN i) X.1 X.2.1 db_gb_14 rfl (lv_at hl 2 rfl) ?_
  refine lv_iload_n (i := 3) (x := iN 0) X.1 X.2.1 db_gb_15 rfl (lv_at hl 3 rfl) ?_
  refine lv_ishl X.1 X.2.1 db_gb_16 ?_
  rw [sh_l0]
  refine lv_aload_n (i := 0) (x := (adr (NN + 6))) X.1 X.2.1 db_gb_17 rfl (lv_at hl 0 rfl) ?_
  refine vk_getf (ref := "java/lang/String") X.1 X.2.1 (hz.2.2.1.1.1 6 (by decide)).2.2.1 (hz.S g1) X.2.2.2.1 (X.2.2.2.2 _ sf_gb_value_18) (fun _ h => h) db_gb_18 ?_
  refine va_tlen X.1 X.2.1 (hz.2.2.1.1.1 6 (by decide)).2.2.2 (hz.S g1) (v := iN 7) (by decide) db_gb_21 ?_
  have c0 : (iN 0).toNatClampNeg = 0 := by decide
  have c7 : (iN 7).toNatClampNeg = 7 := by decide
  have hC : xC x1 ≤ 142 := by rcases g1.2.2.1.1 with h | h | h | h <;> omega
  obtain ⟨i0, i1⟩ := hP
  have cI : (iN i).toNatClampNeg = i.toNat := iN_clamp i0 (by omega)
  refine vk_copyt X.1 X.2.1 (by rw [X.2.2.1, hl.1]) X.2.2.2.1 (X.2.2.2.2 _ ac_gb.1) (X.2.2.2.2 _ ac_gb.2.1) (X.2.2.2.2 _ ac_gb.2.2.1) (X.2.2.2.2 _ ac_gb.2.2.2) hz.2.1 g1.1 g1.dd g1.2.2.2 ((hz.2.2.1.1.1 6 (by decide)).2.2.2.narrow (fun q hq => bA_n0 hz q hq)) 1 0 rfl rfl (by decide) (fun z => by
    have := (iN_lt (x := i) (y := 0) ⟨by omega, by omega⟩ inR_0).mp z
    omega) (by decide) (by rw [c0, c7]; decide) (by rw [cI, c7]; omega) (fun j hj => ?_) (by decide) (by simp [Value.category]; decide) db_gb_22 (fun H2 lc2 hP2 hD2 hS2 => ?_)
  · rw [c7] at hj
    rw [c0, Nat.zero_add, tbW_b j hj]
    exact fits_T (T := fun j => tbW.getD j 0) tbW_in j
  rw [c0, cI, c7] at hP2
  have hT : va_cpy (fun j => (strByt.getD 6 []).getD j 0) (fun j => iN (xT x1 j)) 0 i.toNat 7 = fun j => iN (cpT (xT x1) i.toNat j) := by
    funext j
    unfold va_cpy cpT
    by_cases h : i.toNat ≤ j ∧ j < i.toNat + 7
    · rw [if_pos h, if_pos h, Nat.zero_add]
      exact tbW_b _ (by omega)
    · rw [if_neg h, if_neg h]
  rw [hT] at hP2
  have g2 : GB D tA sz bs (xB x1) (xB x1, xC x1, xN x1, xM x1, cpT (xT x1) i.toNat) s H2 lc2 := ⟨hP2, g1.2.1, ⟨g1.2.2.1.1, g1.2.2.1.2.1, cpT_ok g1.2.2.1.2.2⟩, hS2⟩
  refine lv_goto (tgt := 43) X.1 X.2.1 db_gb_25 (by decide) ?_
  exact b_vret X hret hlk g2 ⟨rfl, rfl, rfl, rfl⟩ (by omega) (by omega) db_gb_43
def yb_in : MethodName := ⟨"java/lang/AbstractStringBuilder", "inflateIfNeededFor", "(Ljava/lang/String;)V"⟩
set_option maxRecDepth 100000 in
theorem cs_in : Cond.fieldLink "java/lang/AbstractStringBuilder" 18 "java/lang/String" "COMPACT_STRINGS" "Z" ∈ gW := gW_at (i := 483) rfl rfl
set_option maxRecDepth 100000 in
theorem db_in_0 : decode prog_16_method_71_code 0 = .ok (.getstatic 18, 3) := rfl
set_option maxRecDepth 100000 in
theorem db_in_3 : decode prog_16_method_71_code 3 = .ok (.ifCond .eq 18, 3) := rfl
set_option maxRecDepth 100000 in
theorem db_in_6 : decode prog_16_method_71_code 6 = .ok (.aload_n 0, 1) := rfl
set_option maxRecDepth 100000 in
theorem db_in_7 : decode prog_16_method_71_code 7 = .ok (.getfield 22, 3) := rfl
set_option maxRecDepth 100000 in
theorem db_in_10 : decode prog_16_method_71_code 10 = .ok (.aload_n 1, 1) := rfl
set_option maxRecDepth 100000 in
theorem wb_9 : BWd 0 "java/lang/AbstractStringBuilder" 40 yb_sc prog_27_method_152_code 1 (some .byte) "java/lang/String" 0 := ⟨⟨⟨gW_at (i := 1510) rfl rfl, gW_at (i := 116) rfl rfl, gW_at (i := 1024) rfl rfl⟩, ⟨by decide, by decide, rfl⟩, by decide⟩, gW_at (i := 1022) rfl rfl, gW_at (i := 1023) rfl rfl⟩
set_option maxRecDepth 100000 in
theorem db_in_11 : decode prog_16_method_71_code 11 = .ok (.invokevirtual 40, 3) := rfl
set_option maxRecDepth 100000 in
theorem db_in_14 : decode prog_16_method_71_code 14 = .ok (.if_icmp .eq 7, 3) := rfl
set_option maxRecDepth 100000 in
theorem db_in_21 : decode prog_16_method_71_code 21 = .ok (.return_, 1) := rfl
set_option maxHeartbeats 4000000 in
set_option maxRecDepth 100000 in
theorem b_inflIf : BC yb_in prog_16_method_71_code 2 none 2 80 0 0 bs (fun x adr => [.ref bs, .ref (adr (NN + 6))]) (fun x => True) (fun x v x' => v = none ∧ x' = x) := by
  refine bc_of (by decide) rfl (fun _ _ => by simp [lg_sl, Value.category]) ?_
  intro p l e s m args below meth c D tA n0 adr adV sz x ls hP X hz g hret hlk hl
  have hl : lv_has ls 2 [(0, .ref bs), (1, .ref (adr (NN + 6)))] := hl
  refine va_gets (ref := "java/lang/String") X.1 X.2.1 hz.2.2.1.2.1.1 (hz.S g) X.2.2.2.1 (X.2.2.2.2 _ cs_in) (fun _ h => h) db_in_0 ?_
  refine lv_if_eq (tgt := 21) X.1 X.2.1 db_in_3 (by decide) (fun h => absurd h (by decide)) (fun _ => ?_)
  refine lv_aload_n (i := 0) (x := bs) X.1 X.2.1 db_in_6 rfl (lv_at hl 0 rfl) ?_
  refine b_get (k := 1) X hz g (by decide) fb_0 rfl db_in_7 ?_
  refine lv_aload_n (i := 1) (x := (adr (NN + 6))) X.1 X.2.1 db_in_10 rfl (lv_at hl 1 rfl) ?_
  refine b_callV (As := []) (rest := [.int (iN 0)]) X hz g (b_scoder) trivial wb_9 rfl rfl (vk_recv hz.2.2.1.1 (i := 6) (by decide) (hz.S g)) hl.1 ⟨by decide, by decide⟩ ⟨by decide, by decide⟩ (by simp [Value.category]) rfl db_in_11 (fun v x1 H1 lc1 hv1 g1 => ?_)
  obtain ⟨rfl, rfl⟩ := hv1
  refine lv_icmp_eq (tgt := 21) X.1 X.2.1 db_in_14 (by decide) (fun _ => ?_) (fun h => absurd rfl h)
  exact b_vret X hret hlk g1 ⟨rfl, rfl⟩ (by omega) (by omega) db_in_21
def yb_ps : MethodName := ⟨"java/lang/AbstractStringBuilder", "putStringAt", "(ILjava/lang/String;)V"⟩
set_option maxRecDepth 100000 in
theorem db_ps_0 : decode prog_16_method_73_code 0 = .ok (.aload_n 0, 1) := rfl
set_option maxRecDepth 100000 in
theorem db_ps_1 : decode prog_16_method_73_code 1 = .ok (.aload_n 2, 1) := rfl
set_option maxRecDepth 100000 in
theorem wb_10 : BWd 3 "java/lang/AbstractStringBuilder" 397 yb_in prog_16_method_71_code 2 none "java/lang/AbstractStringBuilder" 1 := ⟨⟨⟨gW_at (i := 1506) rfl rfl, gW_at (i := 114) rfl rfl, gW_at (i := 1509) rfl rfl⟩, ⟨by decide, by decide, rfl⟩, by decide⟩, gW_at (i := 1508) rfl rfl, by decide, rfl⟩
set_option maxRecDepth 100000 in
theorem db_ps_2 : decode prog_16_method_73_code 2 = .ok (.invokevirtual 397, 3) := rfl
set_option maxRecDepth 100000 in
theorem db_ps_5 : decode prog_16_method_73_code 5 = .ok (.aload_n 2, 1) := rfl
set_option maxRecDepth 100000 in
theorem db_ps_6 : decode prog_16_method_73_code 6 = .ok (.aload_n 0, 1) := rfl
set_option maxRecDepth 100000 in
theorem db_ps_7 : decode prog_16_method_73_code 7 = .ok (.getfield 15, 3) := rfl
set_option maxRecDepth 100000 in
theorem db_ps_10 : decode prog_16_method_73_code 10 = .ok (.iload_n 1, 1) := rfl
set_option maxRecDepth 100000 in
theorem db_ps_11 : decode prog_16_method_73_code 11 = .ok (.aload_n 0, 1) := rfl
set_option maxRecDepth 100000 in
theorem db_ps_12 : decode prog_16_method_73_code 12 = .ok (.getfield 22, 3) := rfl
set_option maxRecDepth 100000 in
theorem wb_11 : BWd 0 "java/lang/AbstractStringBuilder" 399 yb_gb prog_27_method_147_code 4 none "java/lang/String" 3 := ⟨⟨⟨gW_at (i := 1530) rfl rfl, gW_at (i := 116) rfl rfl, gW_at (i := 1533) rfl rfl⟩, ⟨by decide, by decide, rfl⟩, by decide⟩, gW_at (i := 1531) rfl rfl, gW_at (i := 1532) rfl rfl⟩
set_option maxRecDepth 100000 in
theorem db_ps_15 : decode prog_16_method_73_code 15 = .ok (.invokevirtual 399, 3) := rfl
set_option maxRecDepth 100000 in
theorem db_ps_18 : decode prog_16_method_73_code 18 = .ok (.return_, 1) := rfl
set_option maxHeartbeats 4000000 in
set_option maxRecDepth 100000 in
theorem b_putStr {i : Int} : BC yb_ps prog_16_method_73_code 3 none 4 400 0 0 bs (fun x adr => [.ref bs, .int (iN i), .ref (adr (NN + 6))]) (fun x => 0 ≤ i ∧ i + 7 ≤ (xC x : Int)) (fun x v x' => v = none ∧ xC x' = xC x ∧ xN x' = xN x ∧ xT x' = cpT (xT x) i.toNat) := by
  refine bc_of (by decide) rfl (fun _ _ => by simp [lg_sl, Value.category]) ?_
  intro p l e s m args below meth c D tA n0 adr adV sz x ls hP X hz g hret hlk hl
  have hl : lv_has ls 3 [(0, .ref bs), (1, .int (iN i)), (2, .ref (adr (NN + 6)))] := hl
  refine lv_aload_n (i := 0) (x := bs) X.1 X.2.1 db_ps_0 rfl (lv_at hl 0 rfl) ?_
  refine lv_aload_n (i := 2) (x := (adr (NN + 6))) X.1 X.2.1 db_ps_1 rfl (lv_at hl 2 rfl) ?_
  refine b_callP (As := [.ref (adr (NN + 6))]) (rest := []) X hz g (b_inflIf) trivial wb_10 rfl rfl hl.1 ⟨by decide, by decide⟩ ⟨by decide, by decide⟩ (by simp [Value.category]) rfl db_ps_2 (fun v x1 H1 lc1 hv1 g1 => ?_)
  obtain ⟨rfl, rfl⟩ := hv1
  refine lv_aload_n (i := 2) (x := (adr (NN + 6))) X.1 X.2.1 db_ps_5 rfl (lv_at hl 2 rfl) ?_
  refine lv_aload_n (i := 0) (x := bs) X.1 X.2.1 db_ps_6 rfl (lv_at hl 0 rfl) ?_
  refine b_get (k := 0) X hz g1 (by decide) fb_2 rfl db_ps_7 ?_
  refine lv_iload_n (i := 1) (x := iN i) X.1 X.2.1 db_ps_10 rfl (lv_at hl 1 rfl) ?_
  refine lv_aload_n (i := 0) (x := bs) X.1 X.2.1 db_ps_11 rfl (lv_at hl 0 rfl) ?_
  refine b_get (k := 1) X hz g1 (by decide) fb_0 rfl db_ps_12 ?_
  refine b_callV (As := [.ref (xB x1), .int (iN i), .int (iN 0)]) (rest := []) X hz g1 (b_getBytes) hP wb_11 rfl rfl (vk_recv hz.2.2.1.1 (i := 6) (by decide) (hz.S g1)) hl.1 ⟨by decide, by decide⟩ ⟨by decide, by decide⟩ (by simp [Value.category]) rfl db_ps_15 (fun v x2 H2 lc2 hv2 g2 => ?_)
  exact b_vret X hret hlk g2 hv2 (by omega) (by omega) db_ps_18
def yb_as : MethodName := ⟨"java/lang/AbstractStringBuilder", "append", "(Ljava/lang/String;)Ljava/lang/AbstractStringBuilder;"⟩
set_option maxRecDepth 100000 in
theorem db_as_0 : decode prog_16_method_22_code 0 = .ok (.aload_n 1, 1) := rfl
set_option maxRecDepth 100000 in
theorem db_as_1 : decode prog_16_method_22_code 1 = .ok (.ifnonnull 8, 3) := rfl
set_option maxRecDepth 100000 in
theorem db_as_9 : decode prog_16_method_22_code 9 = .ok (.aload_n 1, 1) := rfl
set_option maxRecDepth 100000 in
theorem wb_12 : BWd 0 "java/lang/AbstractStringBuilder" 32 yb_sn prog_27_method_54_code 1 (some .int) "java/lang/String" 0 := ⟨⟨⟨gW_at (i := 1501) rfl rfl, gW_at (i := 116) rfl rfl, gW_at (i := 1020) rfl rfl⟩, ⟨by decide, by decide, rfl⟩, by decide⟩, gW_at (i := 1018) rfl rfl, gW_at (i := 1019) rfl rfl⟩
set_option maxRecDepth 100000 in
theorem db_as_10 : decode prog_16_method_22_code 10 = .ok (.invokevirtual 32, 3) := rfl
set_option maxRecDepth 100000 in
theorem db_as_13 : decode prog_16_method_22_code 13 = .ok (.istore_n 2, 1) := rfl
set_option maxRecDepth 100000 in
theorem db_as_14 : decode prog_16_method_22_code 14 = .ok (.aload_n 0, 1) := rfl
set_option maxRecDepth 100000 in
theorem db_as_15 : decode prog_16_method_22_code 15 = .ok (.aload_n 0, 1) := rfl
set_option maxRecDepth 100000 in
theorem db_as_16 : decode prog_16_method_22_code 16 = .ok (.getfield 79, 3) := rfl
set_option maxRecDepth 100000 in
theorem db_as_19 : decode prog_16_method_22_code 19 = .ok (.iload_n 2, 1) := rfl
set_option maxRecDepth 100000 in
theorem db_as_20 : decode prog_16_method_22_code 20 = .ok (.iadd, 1) := rfl
set_option maxRecDepth 100000 in
theorem db_as_21 : decode prog_16_method_22_code 21 = .ok (.invokevirtual 100, 3) := rfl
set_option maxRecDepth 100000 in
theorem db_as_24 : decode prog_16_method_22_code 24 = .ok (.aload_n 0, 1) := rfl
set_option maxRecDepth 100000 in
theorem db_as_25 : decode prog_16_method_22_code 25 = .ok (.aload_n 0, 1) := rfl
set_option maxRecDepth 100000 in
theorem db_as_26 : decode prog_16_method_22_code 26 = .ok (.getfield 79, 3) := rfl
set_option maxRecDepth 100000 in
theorem db_as_29 : decode prog_16_method_22_code 29 = .ok (.aload_n 1, 1) := rfl
set_option maxRecDepth 100000 in
theorem wb_13 : BWd 3 "java/lang/AbstractStringBuilder" 208 yb_ps prog_16_method_73_code 3 none "java/lang/AbstractStringBuilder" 2 := ⟨⟨⟨gW_at (i := 1502) rfl rfl, gW_at (i := 114) rfl rfl, gW_at (i := 1505) rfl rfl⟩, ⟨by decide, by decide, rfl⟩, by decide⟩, gW_at (i := 1504) rfl rfl, by decide, rfl⟩
set_option maxRecDepth 100000 in
theorem db_as_30 : decode prog_16_method_22_code 30 = .ok (.invokevirtual 208, 3) := rfl
set_option maxRecDepth 100000 in
theorem db_as_33 : decode prog_16_method_22_code 33 = .ok (.aload_n 0, 1) := rfl
set_option maxRecDepth 100000 in
theorem db_as_34 : decode prog_16_method_22_code 34 = .ok (.dup, 1) := rfl
set_option maxRecDepth 100000 in
theorem db_as_35 : decode prog_16_method_22_code 35 = .ok (.getfield 79, 3) := rfl
set_option maxRecDepth 100000 in
theorem db_as_38 : decode prog_16_method_22_code 38 = .ok (.iload_n 2, 1) := rfl
set_option maxRecDepth 100000 in
theorem db_as_39 : decode prog_16_method_22_code 39 = .ok (.iadd, 1) := rfl
set_option maxRecDepth 100000 in
theorem db_as_40 : decode prog_16_method_22_code 40 = .ok (.putfield 79, 3) := rfl
set_option maxRecDepth 100000 in
theorem db_as_43 : decode prog_16_method_22_code 43 = .ok (.aload_n 0, 1) := rfl
set_option maxRecDepth 100000 in
theorem db_as_44 : decode prog_16_method_22_code 44 = .ok (.areturn, 1) := rfl
set_option maxHeartbeats 4000000 in
set_option maxRecDepth 100000 in
theorem b_appS0 : BC yb_as prog_16_method_22_code 3 (some (.object "java/lang/AbstractStringBuilder")) 6 800 1 142 bs (fun x adr => [.ref bs, .ref (adr (NN + 6))]) (fun x => xN x = 0) (fun x v x' => v = some (.ref bs) ∧ xN x' = 7 ∧ ∀ j, j < 7 → xT x' j = tbW.getD j 0) := by
  refine bc_of (by decide) rfl (fun _ _ => by simp [lg_sl, Value.category]) ?_
  intro p l e s m args below meth c D tA n0 adr adV sz x ls hP X hz g hret hlk hl
  have hl : lv_has ls 3 [(0, .ref bs), (1, .ref (adr (NN + 6)))] := hl
  have hN0 := g.2.2.1.2.1
  refine lv_aload_n (i := 1) (x := (adr (NN + 6))) X.1 X.2.1 db_as_0 rfl (lv_at hl 1 rfl) ?_
  refine lv_ifnonnull (tgt := 9) X.1 X.2.1 db_as_1 (by decide) ?_
  refine lv_aload_n (i := 1) (x := (adr (NN + 6))) X.1 X.2.1 db_as_9 rfl (lv_at hl 1 rfl) ?_
  refine b_callV (As := []) (rest := []) X hz g (b_slength) trivial wb_12 rfl rfl (vk_recv hz.2.2.1.1 (i := 6) (by decide) (hz.S g)) hl.1 ⟨by decide, by decide⟩ ⟨by decide, by decide⟩ (by simp [Value.category]) rfl db_as_10 (fun v x1 H1 lc1 hv1 g1 => ?_)
  obtain ⟨rfl, rfl⟩ := hv1
  refine lv_istore_n (i := 2) (lv' := [(2, .int (iN 7)), (0, .ref bs), (1, .ref (adr (NN + 6)))]) X.1 X.2.1 db_as_13 rfl hl (by decide) rfl (fun ls1 hl1 => ?_)
  refine lv_aload_n (i := 0) (x := bs) X.1 X.2.1 db_as_14 rfl (lv_at hl1 1 rfl) ?_
  refine lv_aload_n (i := 0) (x := bs) X.1 X.2.1 db_as_15 rfl (lv_at hl1 1 rfl) ?_
  refine b_get (k := 3) X hz g1 (by decide) fb_1 rfl db_as_16 ?_
  refine lv_iload_n (i := 2) (x := iN 7) X.1 X.2.1 db_as_19 rfl (lv_at hl1 0 rfl) ?_
  refine lv_iadd X.1 X.2.1 db_as_20 ?_
  rw [iN_add]
  refine b_callP (As := [.int (iN ((xN x1 : Int) + 7))]) (rest := []) X hz g1 (b_ensure (a := (xN x1 : Int) + 7) (by omega) (by omega)) (by omega) wb_3 rfl rfl hl1.1 ⟨by decide, by decide⟩ ⟨by decide, by decide⟩ (by simp [Value.category]) rfl db_as_21 (fun v x2 H2 lc2 hv2 g2 => ?_)
  obtain ⟨rfl, hv2, hv3, hv4⟩ := hv2
  refine lv_aload_n (i := 0) (x := bs) X.1 X.2.1 db_as_24 rfl (lv_at hl1 1 rfl) ?_
  refine lv_aload_n (i := 0) (x := bs) X.1 X.2.1 db_as_25 rfl (lv_at hl1 1 rfl) ?_
  refine b_get (k := 3) X hz g2 (by decide) fb_1 rfl db_as_26 ?_
  refine lv_aload_n (i := 1) (x := (adr (NN + 6))) X.1 X.2.1 db_as_29 rfl (lv_at hl1 2 rfl) ?_
  refine b_callP (As := [.int (iN (xN x2 : Int)), .ref (adr (NN + 6))]) (rest := []) X hz g2 (b_putStr (i := (xN x2 : Int))) ⟨by omega, by omega⟩ wb_13 rfl rfl hl1.1 ⟨by decide, by decide⟩ ⟨by decide, by decide⟩ (by simp [Value.category]) rfl db_as_30 (fun v x3 H3 lc3 hw3 g3 => ?_)
  obtain ⟨rfl, p1, p2, p3⟩ := hw3
  refine lv_aload_n (i := 0) (x := bs) X.1 X.2.1 db_as_33 rfl (lv_at hl1 1 rfl) ?_
  refine lv_dup X.1 X.2.1 db_as_34 rfl ?_
  refine b_get (k := 3) X hz g3 (by decide) fb_1 rfl db_as_35 ?_
  refine lv_iload_n (i := 2) (x := iN 7) X.1 X.2.1 db_as_38 rfl (lv_at hl1 0 rfl) ?_
  refine lv_iadd X.1 X.2.1 db_as_39 ?_
  rw [iN_add]
  have hT3 := g3.2.2.1
  refine b_put (k := 3) (ty := .int) (x' := (xB x3, xC x3, xN x3 + 7, xM x3, xT x3)) X hz g3 (by decide) fb_1 rfl rfl (vp_nar_int _) rfl db_as_40 ⟨hT3.1, by show xN x3 + 7 ≤ xC x3; omega, hT3.2.2⟩ rfl rfl rfl (fun H4 lc4 g4 => ?_)
  refine lv_aload_n (i := 0) (x := bs) X.1 X.2.1 db_as_43 rfl (lv_at hl1 1 rfl) ?_
  exact b_aret X hret hlk g4 ⟨rfl, by show xN x3 + 7 = _; omega, fun j hj => by
    show xT x3 j = _
    rw [p3]
    unfold cpT
    rw [if_pos (by omega), show j - ((xN x2 : Int)).toNat = j by omega]⟩ (by omega) (by omega) db_as_44
def yb_pc : MethodName := ⟨"jdk/internal/util/Preconditions", "checkIndex", "(IILjava/util/function/BiFunction;)I"⟩
set_option maxRecDepth 100000 in
theorem db_pc_0 : decode prog_38_method_11_code 0 = .ok (.iload_n 0, 1) := rfl
set_option maxRecDepth 100000 in
theorem db_pc_1 : decode prog_38_method_11_code 1 = .ok (.ifCond .lt 8, 3) := rfl
set_option maxRecDepth 100000 in
theorem db_pc_4 : decode prog_38_method_11_code 4 = .ok (.iload_n 0, 1) := rfl
set_option maxRecDepth 100000 in
theorem db_pc_5 : decode prog_38_method_11_code 5 = .ok (.iload_n 1, 1) := rfl
set_option maxRecDepth 100000 in
theorem db_pc_6 : decode prog_38_method_11_code 6 = .ok (.if_icmp .lt 10, 3) := rfl
set_option maxRecDepth 100000 in
theorem db_pc_16 : decode prog_38_method_11_code 16 = .ok (.iload_n 0, 1) := rfl
set_option maxRecDepth 100000 in
theorem db_pc_17 : decode prog_38_method_11_code 17 = .ok (.ireturn, 1) := rfl
set_option maxHeartbeats 4000000 in
set_option maxRecDepth 100000 in
theorem b_pcheck {a d : Int} {z : Value} (hzc : z.category = 1) (h0 : 0 ≤ a) (h1 : a < d) (h2 : d ≤ 1000) : BC yb_pc prog_38_method_11_code 3 (some .int) 0 0 0 0 bs (fun x adr => [.int (iN a), .int (iN d), z]) (fun x => True) (fun x v x' => v = some (.int (iN a)) ∧ x' = x) := by
  refine bc_of (by decide) rfl (fun _ _ => by simp [lg_sl, Value.category, hzc]) ?_
  intro p l e s m args below meth c D tA n0 adr adV sz x ls hP X hz g hret hlk hl
  have hl : lv_has ls 3 [(0, .int (iN a)), (1, .int (iN d)), (2, z)] := hl
  refine lv_iload_n (i := 0) (x := iN a) X.1 X.2.1 db_pc_0 rfl (lv_at hl 0 rfl) ?_
  refine lv_if_lt (tgt := 9) X.1 X.2.1 db_pc_1 (by decide) (fun h => absurd h (fun z => by
    have := (iN_lt (x := a) (y := 0) ⟨by omega, by omega⟩ inR_0).mp z
    omega)) (fun _ => ?_)
  refine lv_iload_n (i := 0) (x := iN a) X.1 X.2.1 db_pc_4 rfl (lv_at hl 0 rfl) ?_
  refine lv_iload_n (i := 1) (x := iN d) X.1 X.2.1 db_pc_5 rfl (lv_at hl 1 rfl) ?_
  refine lv_icmp_lt (tgt := 16) X.1 X.2.1 db_pc_6 (by decide) (fun _ => ?_) (fun h => absurd ((iN_lt (x := a) (y := d) ⟨by omega, by omega⟩ ⟨by omega, by omega⟩).mpr h1) h)
  refine lv_iload_n (i := 0) (x := iN a) X.1 X.2.1 db_pc_16 rfl (lv_at hl 0 rfl) ?_
  exact b_zret (v := iN a) X hret (by first | rfl | exact vp_nar_int _) hlk g ⟨rfl, rfl⟩ (by omega) (by omega) db_pc_17
def yb_si : MethodName := ⟨"java/lang/String", "checkIndex", "(II)V"⟩
set_option maxRecDepth 100000 in
theorem db_si_0 : decode prog_27_method_155_code 0 = .ok (.iload_n 0, 1) := rfl
set_option maxRecDepth 100000 in
theorem db_si_1 : decode prog_27_method_155_code 1 = .ok (.iload_n 1, 1) := rfl
set_option maxRecDepth 100000 in
theorem db_si_2 : decode prog_27_method_155_code 2 = .ok (.getstatic 1053, 3) := rfl
set_option maxRecDepth 100000 in
theorem wb_14 : BWd 1 "java/lang/String" 1059 yb_pc prog_38_method_11_code 3 (some .int) "java/lang/String" 3 := ⟨⟨⟨gW_at (i := 1042) rfl rfl, gW_at (i := 126) rfl rfl, gW_at (i := 1044) rfl rfl⟩, ⟨by decide, by decide, rfl⟩, by decide⟩, gW_at (i := 1043) rfl rfl⟩
set_option maxRecDepth 100000 in
theorem db_si_5 : decode prog_27_method_155_code 5 = .ok (.invokestatic 1059, 3) := rfl
set_option maxRecDepth 100000 in
theorem db_si_8 : decode prog_27_method_155_code 8 = .ok (.pop, 1) := rfl
set_option maxRecDepth 100000 in
theorem db_si_9 : decode prog_27_method_155_code 9 = .ok (.return_, 1) := rfl
set_option maxHeartbeats 4000000 in
set_option maxRecDepth 100000 in
theorem b_scheck {a d : Int} (h0 : 0 ≤ a) (h1 : a < d) (h2 : d ≤ 1000) : BC yb_si prog_27_method_155_code 2 none 1 60 0 0 bs (fun x adr => [.int (iN a), .int (iN d)]) (fun x => True) (fun x v x' => v = none ∧ x' = x) := by
  refine bc_of (by decide) rfl (fun _ _ => by simp [lg_sl, Value.category]) ?_
  intro p l e s m args below meth c D tA n0 adr adV sz x ls hP X hz g hret hlk hl
  have hl : lv_has ls 2 [(0, .int (iN a)), (1, .int (iN d))] := hl
  obtain ⟨z, hzc, hZ⟩ : ∃ z : Value, z.category = 1 ∧ va_Z "jdk/internal/util/Preconditions" "SIOOBE_FORMATTER" "Ljava/util/function/BiFunction;" z (fun q => n0 ≤ q) s s.heap := by
    rcases hz.2.2.1.2.1.2.1 with h | ⟨t, h⟩
    · exact ⟨.null, rfl, h⟩
    · exact ⟨.ref t, rfl, h⟩
  refine lv_iload_n (i := 0) (x := iN a) X.1 X.2.1 db_si_0 rfl (lv_at hl 0 rfl) ?_
  refine lv_iload_n (i := 1) (x := iN d) X.1 X.2.1 db_si_1 rfl (lv_at hl 1 rfl) ?_
  refine va_gets (ref := "jdk/internal/util/Preconditions") X.1 X.2.1 hZ (hz.S g) X.2.2.2.1 (X.2.2.2.2 _ ci_w.1) (fun _ h => h) db_si_2 ?_
  refine b_callS (As := [.int (iN a), .int (iN d), z]) (rest := []) X hz g (b_pcheck hzc h0 h1 h2) trivial wb_14 rfl rfl hl.1 ⟨by decide, by decide⟩ ⟨by decide, by decide⟩ (by simp) rfl db_si_5 (fun v x1 H1 lc1 hv1 g1 => ?_)
  obtain ⟨rfl, rfl⟩ := hv1
  refine lv_pop X.1 X.2.1 db_si_8 rfl ?_
  exact b_vret X hret hlk g1 ⟨rfl, rfl⟩ (by omega) (by omega) db_si_9
def yb_ca : MethodName := ⟨"java/lang/AbstractStringBuilder", "charAt", "(I)C"⟩
set_option maxRecDepth 100000 in
theorem db_ca_0 : decode prog_16_method_14_code 0 = .ok (.aload_n 0, 1) := rfl
set_option maxRecDepth 100000 in
theorem db_ca_1 : decode prog_16_method_14_code 1 = .ok (.getfield 22, 3) := rfl
set_option maxRecDepth 100000 in
theorem db_ca_4 : decode prog_16_method_14_code 4 = .ok (.istore_n 2, 1) := rfl
set_option maxRecDepth 100000 in
theorem db_ca_5 : decode prog_16_method_14_code 5 = .ok (.aload_n 0, 1) := rfl
set_option maxRecDepth 100000 in
theorem db_ca_6 : decode prog_16_method_14_code 6 = .ok (.getfield 15, 3) := rfl
set_option maxRecDepth 100000 in
theorem db_ca_9 : decode prog_16_method_14_code 9 = .ok (.astore_n 3, 1) := rfl
set_option maxRecDepth 100000 in
theorem db_ca_10 : decode prog_16_method_14_code 10 = .ok (.aload_n 0, 1) := rfl
set_option maxRecDepth 100000 in
theorem db_ca_11 : decode prog_16_method_14_code 11 = .ok (.getfield 79, 3) := rfl
set_option maxRecDepth 100000 in
theorem db_ca_14 : decode prog_16_method_14_code 14 = .ok (.aload_n 3, 1) := rfl
set_option maxRecDepth 100000 in
theorem db_ca_15 : decode prog_16_method_14_code 15 = .ok (.arraylength, 1) := rfl
set_option maxRecDepth 100000 in
theorem db_ca_16 : decode prog_16_method_14_code 16 = .ok (.iload_n 2, 1) := rfl
set_option maxRecDepth 100000 in
theorem db_ca_17 : decode prog_16_method_14_code 17 = .ok (.ishr, 1) := rfl
set_option maxRecDepth 100000 in
theorem mb_min_AbstractStringBuilder : Cond.methodLink "java/lang/AbstractStringBuilder" 138 Lib.Math.min.name ∈ gW ∧ Cond.static Lib.Math.min.name ∈ gW ∧ Cond.initialized "java/lang/Math" ∈ gW ∧ Cond.code Lib.Math.min.name Lib.Math.min.code 2 (some .int) ∈ gW := ⟨gW_at (i := 1661) rfl rfl, gW_at (i := 286) rfl rfl, gW_at (i := 109) rfl rfl, gW_at (i := 287) rfl rfl⟩
set_option maxRecDepth 100000 in
theorem db_ca_18 : decode prog_16_method_14_code 18 = .ok (.invokestatic 138, 3) := rfl
set_option maxRecDepth 100000 in
theorem db_ca_21 : decode prog_16_method_14_code 21 = .ok (.istore 4, 2) := rfl
set_option maxRecDepth 100000 in
theorem db_ca_23 : decode prog_16_method_14_code 23 = .ok (.iload_n 1, 1) := rfl
set_option maxRecDepth 100000 in
theorem db_ca_24 : decode prog_16_method_14_code 24 = .ok (.iload 4, 2) := rfl
set_option maxRecDepth 100000 in
theorem wb_15 : BWd 1 "java/lang/AbstractStringBuilder" 144 yb_si prog_27_method_155_code 2 none "java/lang/AbstractStringBuilder" 2 := ⟨⟨⟨gW_at (i := 1662) rfl rfl, gW_at (i := 116) rfl rfl, gW_at (i := 1039) rfl rfl⟩, ⟨by decide, by decide, rfl⟩, by decide⟩, gW_at (i := 1038) rfl rfl⟩
set_option maxRecDepth 100000 in
theorem db_ca_26 : decode prog_16_method_14_code 26 = .ok (.invokestatic 144, 3) := rfl
set_option maxRecDepth 100000 in
theorem db_ca_29 : decode prog_16_method_14_code 29 = .ok (.iload_n 2, 1) := rfl
set_option maxRecDepth 100000 in
theorem db_ca_30 : decode prog_16_method_14_code 30 = .ok (.ifCond .ne 12, 3) := rfl
set_option maxRecDepth 100000 in
theorem db_ca_33 : decode prog_16_method_14_code 33 = .ok (.aload_n 3, 1) := rfl
set_option maxRecDepth 100000 in
theorem db_ca_34 : decode prog_16_method_14_code 34 = .ok (.iload_n 1, 1) := rfl
set_option maxRecDepth 100000 in
theorem db_ca_35 : decode prog_16_method_14_code 35 = .ok (.baload, 1) := rfl
set_option maxRecDepth 100000 in
theorem db_ca_36 : decode prog_16_method_14_code 36 = .ok (.sipush 255, 3) := rfl
set_option maxRecDepth 100000 in
theorem db_ca_39 : decode prog_16_method_14_code 39 = .ok (.iand, 1) := rfl
set_option maxRecDepth 100000 in
theorem db_ca_40 : decode prog_16_method_14_code 40 = .ok (.i2c, 1) := rfl
set_option maxRecDepth 100000 in
theorem db_ca_41 : decode prog_16_method_14_code 41 = .ok (.ireturn, 1) := rfl
theorem ch_id {a : Int} (h0 : 0 ≤ a) (h1 : a ≤ 127) : ((iN a &&& iN 255).toUInt32 % 65536).toInt32 = iN a ∧ narrow .char (.int (iN a)) = .int (iN a) := by
  obtain ⟨n, rfl⟩ : ∃ n : Nat, a = n := ⟨a.toNat, by omega⟩
  have hn : n < 128 := by omega
  exact (show ∀ n : Nat, n < 128 → ((iN (n : Int) &&& iN 255).toUInt32 % 65536).toInt32 = iN (n : Int) ∧ narrow .char (.int (iN (n : Int))) = .int (iN (n : Int)) by decide +kernel) n hn
set_option maxHeartbeats 4000000 in
set_option maxRecDepth 100000 in
theorem b_charAt0 {i : Int} : BC yb_ca prog_16_method_14_code 5 (some .char) 2 160 0 0 bs (fun x adr => [.ref bs, .int (iN i)]) (fun x => 0 ≤ i ∧ i < (xN x : Int)) (fun x v x' => v = some (.int (iN (xT x i.toNat))) ∧ x' = x) := by
  refine bc_of (by decide) rfl (fun _ _ => by simp [lg_sl, Value.category]) ?_
  intro p l e s m args below meth c D tA n0 adr adV sz x ls hP X hz g hret hlk hl
  have hl : lv_has ls 5 [(0, .ref bs), (1, .int (iN i))] := hl
  obtain ⟨i0, i1⟩ := hP
  have hC : xC x ≤ 142 := by rcases g.2.2.1.1 with h | h | h | h <;> omega
  have hN0 := g.2.2.1.2.1
  refine lv_aload_n (i := 0) (x := bs) X.1 X.2.1 db_ca_0 rfl (lv_at hl 0 rfl) ?_
  refine b_get (k := 1) X hz g (by decide) fb_0 rfl db_ca_1 ?_
  refine lv_istore_n (i := 2) (lv' := [(2, .int (iN 0)), (0, .ref bs), (1, .int (iN i))]) X.1 X.2.1 db_ca_4 rfl hl (by decide) rfl (fun ls1 hl1 => ?_)
  refine lv_aload_n (i := 0) (x := bs) X.1 X.2.1 db_ca_5 rfl (lv_at hl1 1 rfl) ?_
  refine b_get (k := 0) X hz g (by decide) fb_2 rfl db_ca_6 ?_
  refine lv_astore_n (i := 3) (lv' := [(3, .ref (xB x)), (2, .int (iN 0)), (0, .ref bs), (1, .int (iN i))]) X.1 X.2.1 db_ca_9 rfl hl1 (by decide) rfl (fun ls2 hl2 => ?_)
  refine lv_aload_n (i := 0) (x := bs) X.1 X.2.1 db_ca_10 rfl (lv_at hl2 2 rfl) ?_
  refine b_get (k := 3) X hz g (by decide) fb_1 rfl db_ca_11 ?_
  refine lv_aload_n (i := 3) (x := (xB x)) X.1 X.2.1 db_ca_14 rfl (lv_at hl2 0 rfl) ?_
  refine b_len X hz g db_ca_15 ?_
  refine lv_iload_n (i := 2) (x := iN 0) X.1 X.2.1 db_ca_16 rfl (lv_at hl2 1 rfl) ?_
  refine lv_ishr X.1 X.2.1 db_ca_17 ?_
  rw [sh_r0]
  refine va_mmin X.1 X.2.1 (by rw [X.2.2.1, hl2.1]) X.2.2.2.1 (X.2.2.2.2 _ mb_min_AbstractStringBuilder.1) (X.2.2.2.2 _ mb_min_AbstractStringBuilder.2.1) (X.2.2.2.2 _ mb_min_AbstractStringBuilder.2.2.1) (X.2.2.2.2 _ mb_min_AbstractStringBuilder.2.2.2) (by decide) (by simp [Value.category]) (by decide) (by decide) db_ca_18 ?_
  rw [iN_min (x := (xN x : Int)) (y := (xC x : Int)) ⟨by omega, by omega⟩ ⟨by omega, by omega⟩, show min (xN x : Int) (xC x : Int) = (xN x : Int) by omega]
  refine lv_istore (lv' := [(4, .int (iN (xN x : Int))), (3, .ref (xB x)), (2, .int (iN 0)), (0, .ref bs), (1, .int (iN i))]) X.1 X.2.1 db_ca_21 hl2 (by decide) rfl (fun ls3 hl3 => ?_)
  refine lv_iload_n (i := 1) (x := iN i) X.1 X.2.1 db_ca_23 rfl (lv_at hl3 4 rfl) ?_
  refine lv_iload (x := iN (xN x : Int)) X.1 X.2.1 db_ca_24 (lv_at hl3 0 rfl) ?_
  refine b_callS (As := [.int (iN i), .int (iN (xN x : Int))]) (rest := []) X hz g (b_scheck i0 (by omega) (by omega)) trivial wb_15 rfl rfl hl3.1 ⟨by decide, by decide⟩ ⟨by decide, by decide⟩ (by simp [Value.category]) rfl db_ca_26 (fun v x1 H1 lc1 hv1 g1 => ?_)
  obtain ⟨rfl, rfl⟩ := hv1
  refine lv_iload_n (i := 2) (x := iN 0) X.1 X.2.1 db_ca_29 rfl (lv_at hl3 2 rfl) ?_
  refine lv_if_ne (tgt := 42) X.1 X.2.1 db_ca_30 (by decide) (fun h => absurd h (fun z => z rfl)) (fun _ => ?_)
  refine lv_aload_n (i := 3) (x := (xB x1)) X.1 X.2.1 db_ca_33 rfl (lv_at hl3 1 rfl) ?_
  refine lv_iload_n (i := 1) (x := iN i) X.1 X.2.1 db_ca_34 rfl (lv_at hl3 4 rfl) ?_
  refine b_ald X hz g1 i0 (by omega) db_ca_35 ?_
  refine lv_sipush (v := iN 255) X.1 X.2.1 db_ca_36 (by decide) ?_
  refine lv_iand X.1 X.2.1 db_ca_39 ?_
  refine lv_i2c X.1 X.2.1 db_ca_40 (v := iN (xT x1 i.toNat)) (ch_id (g1.2.2.1.2.2 _).1 (g1.2.2.1.2.2 _).2).1 ?_
  exact b_zret (v := iN (xT x1 i.toNat)) X hret (ch_id (g1.2.2.1.2.2 _).1 (g1.2.2.1.2.2 _).2).2 hlk g1 ⟨rfl, rfl⟩ (by omega) (by omega) db_ca_41
end B2

/-! THE BUILDER, 6: java.lang.StringBuilder itself (printed by wip/whole/g7b.py). -/
section B2
variable {bs : Nat}
def yb_appC : MethodName := ⟨RJ4, "append", "(C)Ljava/lang/StringBuilder;"⟩
set_option maxRecDepth 100000 in
theorem db_appC_0 : decode prog_28_method_14_code 0 = .ok (.aload_n 0, 1) := rfl
set_option maxRecDepth 100000 in
theorem db_appC_1 : decode prog_28_method_14_code 1 = .ok (.iload_n 1, 1) := rfl
set_option maxRecDepth 100000 in
theorem wb_16 : BWd 2 RJ4 50 yb_ac prog_16_method_31_code 2 (some (.object "java/lang/AbstractStringBuilder")) RJ4 1 := ⟨⟨⟨gW_at (i := 1644) rfl rfl, gW_at (i := 114) rfl rfl, gW_at (i := 1646) rfl rfl⟩, ⟨by decide, by decide, rfl⟩, by decide⟩, ⟨gW_at (i := 1645) rfl rfl, gW_at (i := 2333) rfl rfl, gW_at (i := 505) rfl rfl⟩, by decide⟩
set_option maxRecDepth 100000 in
theorem db_appC_2 : decode prog_28_method_14_code 2 = .ok (.invokespecial 50, 3) := rfl
set_option maxRecDepth 100000 in
theorem db_appC_5 : decode prog_28_method_14_code 5 = .ok (.pop, 1) := rfl
set_option maxRecDepth 100000 in
theorem db_appC_6 : decode prog_28_method_14_code 6 = .ok (.aload_n 0, 1) := rfl
set_option maxRecDepth 100000 in
theorem db_appC_7 : decode prog_28_method_14_code 7 = .ok (.areturn, 1) := rfl
set_option maxHeartbeats 4000000 in
set_option maxRecDepth 100000 in
theorem b_appC {a : Int} (h0 : 0 ≤ a) (h1 : a ≤ 127) : BC yb_appC prog_28_method_14_code 2 (some (.object "java/lang/StringBuilder")) 7 700 1 142 bs (fun x adr => [.ref bs, .int (iN a)]) (fun x => xN x ≤ 141) (fun x v x' => v = some (.ref bs) ∧ xN x' = xN x + 1 ∧ (∀ j, j < xN x → xT x' j = xT x j) ∧ xT x' (xN x) = a) := by
  refine bc_of (by decide) rfl (fun _ _ => by simp [lg_sl, Value.category]) ?_
  intro p l e s m args below meth c D tA n0 adr adV sz x ls hP X hz g hret hlk hl
  have hl : lv_has ls 2 [(0, .ref bs), (1, .int (iN a))] := hl
  refine lv_aload_n (i := 0) (x := bs) X.1 X.2.1 db_appC_0 rfl (lv_at hl 0 rfl) ?_
  refine lv_iload_n (i := 1) (x := iN a) X.1 X.2.1 db_appC_1 rfl (lv_at hl 1 rfl) ?_
  refine b_callU (As := [.int (iN a)]) (rest := []) X hz g (b_appC0 h0 h1) hP wb_16 rfl rfl hl.1 ⟨by decide, by decide⟩ ⟨by decide, by decide⟩ (by simp [Value.category]) rfl db_appC_2 (fun v x1 H1 lc1 hv1 g1 => ?_)
  obtain ⟨rfl, hv1⟩ := hv1
  refine lv_pop X.1 X.2.1 db_appC_5 rfl ?_
  refine lv_aload_n (i := 0) (x := bs) X.1 X.2.1 db_appC_6 rfl (lv_at hl 0 rfl) ?_
  exact b_aret X hret hlk g1 ⟨rfl, hv1⟩ (by omega) (by omega) db_appC_7
def yb_appI : MethodName := ⟨RJ4, "append", "(I)Ljava/lang/StringBuilder;"⟩
set_option maxRecDepth 100000 in
theorem db_appI_0 : decode prog_28_method_15_code 0 = .ok (.aload_n 0, 1) := rfl
set_option maxRecDepth 100000 in
theorem db_appI_1 : decode prog_28_method_15_code 1 = .ok (.iload_n 1, 1) := rfl
set_option maxRecDepth 100000 in
theorem wb_17 : BWd 2 RJ4 53 yb_ai prog_16_method_32_code 4 (some (.object "java/lang/AbstractStringBuilder")) RJ4 1 := ⟨⟨⟨gW_at (i := 1540) rfl rfl, gW_at (i := 114) rfl rfl, gW_at (i := 1542) rfl rfl⟩, ⟨by decide, by decide, rfl⟩, by decide⟩, ⟨gW_at (i := 1541) rfl rfl, gW_at (i := 2332) rfl rfl, gW_at (i := 505) rfl rfl⟩, by decide⟩
set_option maxRecDepth 100000 in
theorem db_appI_2 : decode prog_28_method_15_code 2 = .ok (.invokespecial 53, 3) := rfl
set_option maxRecDepth 100000 in
theorem db_appI_5 : decode prog_28_method_15_code 5 = .ok (.pop, 1) := rfl
set_option maxRecDepth 100000 in
theorem db_appI_6 : decode prog_28_method_15_code 6 = .ok (.aload_n 0, 1) := rfl
set_option maxRecDepth 100000 in
theorem db_appI_7 : decode prog_28_method_15_code 7 = .ok (.areturn, 1) := rfl
set_option maxHeartbeats 4000000 in
set_option maxRecDepth 100000 in
theorem b_appI {a : Int} (h0 : 0 ≤ a) (h1 : a ≤ 99) : BC yb_appI prog_28_method_15_code 2 (some (.object "java/lang/StringBuilder")) 7 700 1 142 bs (fun x adr => [.ref bs, .int (iN a)]) (fun x => xN x ≤ 140) (fun x v x' => v = some (.ref bs) ∧ (∀ j, j < xN x → xT x' j = xT x j) ∧ if a ≤ 9 then xN x' = xN x + 1 ∧ xT x' (xN x) = 48 + a else xN x' = xN x + 2 ∧ xT x' (xN x) = 48 + a / 10 ∧ xT x' (xN x + 1) = 48 + a % 10) := by
  refine bc_of (by decide) rfl (fun _ _ => by simp [lg_sl, Value.category]) ?_
  intro p l e s m args below meth c D tA n0 adr adV sz x ls hP X hz g hret hlk hl
  have hl : lv_has ls 2 [(0, .ref bs), (1, .int (iN a))] := hl
  refine lv_aload_n (i := 0) (x := bs) X.1 X.2.1 db_appI_0 rfl (lv_at hl 0 rfl) ?_
  refine lv_iload_n (i := 1) (x := iN a) X.1 X.2.1 db_appI_1 rfl (lv_at hl 1 rfl) ?_
  refine b_callU (As := [.int (iN a)]) (rest := []) X hz g (b_appI0 h0 h1) hP wb_17 rfl rfl hl.1 ⟨by decide, by decide⟩ ⟨by decide, by decide⟩ (by simp [Value.category]) rfl db_appI_2 (fun v x1 H1 lc1 hv1 g1 => ?_)
  obtain ⟨rfl, hv1⟩ := hv1
  refine lv_pop X.1 X.2.1 db_appI_5 rfl ?_
  refine lv_aload_n (i := 0) (x := bs) X.1 X.2.1 db_appI_6 rfl (lv_at hl 0 rfl) ?_
  exact b_aret X hret hlk g1 ⟨rfl, hv1⟩ (by omega) (by omega) db_appI_7
def yb_appS : MethodName := ⟨RJ4, "append", "(Ljava/lang/String;)Ljava/lang/StringBuilder;"⟩
set_option maxRecDepth 100000 in
theorem db_appS_0 : decode prog_28_method_7_code 0 = .ok (.aload_n 0, 1) := rfl
set_option maxRecDepth 100000 in
theorem db_appS_1 : decode prog_28_method_7_code 1 = .ok (.aload_n 1, 1) := rfl
set_option maxRecDepth 100000 in
theorem wb_18 : BWd 2 RJ4 29 yb_as prog_16_method_22_code 3 (some (.object "java/lang/AbstractStringBuilder")) RJ4 1 := ⟨⟨⟨gW_at (i := 1479) rfl rfl, gW_at (i := 114) rfl rfl, gW_at (i := 1481) rfl rfl⟩, ⟨by decide, by decide, rfl⟩, by decide⟩, ⟨gW_at (i := 1480) rfl rfl, gW_at (i := 2327) rfl rfl, gW_at (i := 505) rfl rfl⟩, by decide⟩
set_option maxRecDepth 100000 in
theorem db_appS_2 : decode prog_28_method_7_code 2 = .ok (.invokespecial 29, 3) := rfl
set_option maxRecDepth 100000 in
theorem db_appS_5 : decode prog_28_method_7_code 5 = .ok (.pop, 1) := rfl
set_option maxRecDepth 100000 in
theorem db_appS_6 : decode prog_28_method_7_code 6 = .ok (.aload_n 0, 1) := rfl
set_option maxRecDepth 100000 in
theorem db_appS_7 : decode prog_28_method_7_code 7 = .ok (.areturn, 1) := rfl
set_option maxHeartbeats 4000000 in
set_option maxRecDepth 100000 in
theorem b_appS : BC yb_appS prog_28_method_7_code 2 (some (.object "java/lang/StringBuilder")) 7 900 1 142 bs (fun x adr => [.ref bs, .ref (adr (NN + 6))]) (fun x => xN x = 0) (fun x v x' => v = some (.ref bs) ∧ xN x' = 7 ∧ ∀ j, j < 7 → xT x' j = tbW.getD j 0) := by
  refine bc_of (by decide) rfl (fun _ _ => by simp [lg_sl, Value.category]) ?_
  intro p l e s m args below meth c D tA n0 adr adV sz x ls hP X hz g hret hlk hl
  have hl : lv_has ls 2 [(0, .ref bs), (1, .ref (adr (NN + 6)))] := hl
  refine lv_aload_n (i := 0) (x := bs) X.1 X.2.1 db_appS_0 rfl (lv_at hl 0 rfl) ?_
  refine lv_aload_n (i := 1) (x := (adr (NN + 6))) X.1 X.2.1 db_appS_1 rfl (lv_at hl 1 rfl) ?_
  refine b_callU (As := [.ref (adr (NN + 6))]) (rest := []) X hz g (b_appS0) hP wb_18 rfl rfl hl.1 ⟨by decide, by decide⟩ ⟨by decide, by decide⟩ (by simp [Value.category]) rfl db_appS_2 (fun v x1 H1 lc1 hv1 g1 => ?_)
  obtain ⟨rfl, hv1⟩ := hv1
  refine lv_pop X.1 X.2.1 db_appS_5 rfl ?_
  refine lv_aload_n (i := 0) (x := bs) X.1 X.2.1 db_appS_6 rfl (lv_at hl 0 rfl) ?_
  exact b_aret X hret hlk g1 ⟨rfl, hv1⟩ (by omega) (by omega) db_appS_7
def yb_setL : MethodName := ⟨RJ4, "setLength", "(I)V"⟩
set_option maxRecDepth 100000 in
theorem db_setL_0 : decode prog_28_method_89_code 0 = .ok (.aload_n 0, 1) := rfl
set_option maxRecDepth 100000 in
theorem db_setL_1 : decode prog_28_method_89_code 1 = .ok (.iload_n 1, 1) := rfl
set_option maxRecDepth 100000 in
theorem wb_19 : BWd 2 RJ4 333 yb_sl prog_16_method_13_code 2 none RJ4 1 := ⟨⟨⟨gW_at (i := 1423) rfl rfl, gW_at (i := 114) rfl rfl, gW_at (i := 1425) rfl rfl⟩, ⟨by decide, by decide, rfl⟩, by decide⟩, ⟨gW_at (i := 1424) rfl rfl, gW_at (i := 2324) rfl rfl, gW_at (i := 505) rfl rfl⟩, by decide⟩
set_option maxRecDepth 100000 in
theorem db_setL_2 : decode prog_28_method_89_code 2 = .ok (.invokespecial 333, 3) := rfl
set_option maxRecDepth 100000 in
theorem db_setL_5 : decode prog_28_method_89_code 5 = .ok (.return_, 1) := rfl
set_option maxHeartbeats 4000000 in
set_option maxRecDepth 100000 in
theorem b_setL : BC yb_setL prog_28_method_89_code 2 none 6 600 1 142 bs (fun x adr => [.ref bs, .int (iN 0)]) (fun x => True) (fun x v x' => v = none ∧ xN x' = 0) := by
  refine bc_of (by decide) rfl (fun _ _ => by simp [lg_sl, Value.category]) ?_
  intro p l e s m args below meth c D tA n0 adr adV sz x ls hP X hz g hret hlk hl
  have hl : lv_has ls 2 [(0, .ref bs), (1, .int (iN 0))] := hl
  refine lv_aload_n (i := 0) (x := bs) X.1 X.2.1 db_setL_0 rfl (lv_at hl 0 rfl) ?_
  refine lv_iload_n (i := 1) (x := iN 0) X.1 X.2.1 db_setL_1 rfl (lv_at hl 1 rfl) ?_
  refine b_callU (As := [.int (iN 0)]) (rest := []) X hz g (b_setLen0) hP wb_19 rfl rfl hl.1 ⟨by decide, by decide⟩ ⟨by decide, by decide⟩ (by simp [Value.category]) rfl db_setL_2 (fun v x1 H1 lc1 hv1 g1 => ?_)
  obtain ⟨rfl, hv1⟩ := hv1
  exact b_vret X hret hlk g1 ⟨rfl, hv1⟩ (by omega) (by omega) db_setL_5
def yb_lenS : MethodName := ⟨RJ4, "length", "()I"⟩
set_option maxRecDepth 100000 in
theorem db_lenS_0 : decode prog_28_method_93_code 0 = .ok (.aload_n 0, 1) := rfl
set_option maxRecDepth 100000 in
theorem wb_20 : BWd 2 RJ4 343 yb_len prog_16_method_6_code 1 (some .int) RJ4 0 := ⟨⟨⟨gW_at (i := 1587) rfl rfl, gW_at (i := 114) rfl rfl, gW_at (i := 1588) rfl rfl⟩, ⟨by decide, by decide, rfl⟩, by decide⟩, ⟨gW_at (i := 1582) rfl rfl, gW_at (i := 1583) rfl rfl, gW_at (i := 505) rfl rfl⟩, by decide⟩
set_option maxRecDepth 100000 in
theorem db_lenS_1 : decode prog_28_method_93_code 1 = .ok (.invokespecial 343, 3) := rfl
set_option maxRecDepth 100000 in
theorem db_lenS_4 : decode prog_28_method_93_code 4 = .ok (.ireturn, 1) := rfl
set_option maxHeartbeats 4000000 in
set_option maxRecDepth 100000 in
theorem b_lenS : BC yb_lenS prog_28_method_93_code 1 (some .int) 1 60 0 0 bs (fun x adr => [.ref bs]) (fun x => True) (fun x v x' => v = some (.int (iN (xN x : Int))) ∧ x' = x) := by
  refine bc_of (by decide) rfl (fun _ _ => by simp [lg_sl, Value.category]) ?_
  intro p l e s m args below meth c D tA n0 adr adV sz x ls hP X hz g hret hlk hl
  have hl : lv_has ls 1 [(0, .ref bs)] := hl
  refine lv_aload_n (i := 0) (x := bs) X.1 X.2.1 db_lenS_0 rfl (lv_at hl 0 rfl) ?_
  refine b_callU (As := []) (rest := []) X hz g (b_length) hP wb_20 rfl rfl hl.1 ⟨by decide, by decide⟩ ⟨by decide, by decide⟩ (by simp [Value.category]) rfl db_lenS_1 (fun v x1 H1 lc1 hv1 g1 => ?_)
  obtain ⟨rfl, rfl⟩ := hv1
  exact b_zret (v := iN (xN x1 : Int)) X hret (by first | rfl | exact vp_nar_int _) hlk g1 ⟨rfl, rfl⟩ (by omega) (by omega) db_lenS_4
def yb_charS : MethodName := ⟨RJ4, "charAt", "(I)C"⟩
set_option maxRecDepth 100000 in
theorem db_charS_0 : decode prog_28_method_88_code 0 = .ok (.aload_n 0, 1) := rfl
set_option maxRecDepth 100000 in
theorem db_charS_1 : decode prog_28_method_88_code 1 = .ok (.iload_n 1, 1) := rfl
set_option maxRecDepth 100000 in
theorem wb_21 : BWd 2 RJ4 329 yb_ca prog_16_method_14_code 5 (some .char) RJ4 1 := ⟨⟨⟨gW_at (i := 1658) rfl rfl, gW_at (i := 114) rfl rfl, gW_at (i := 1660) rfl rfl⟩, ⟨by decide, by decide, rfl⟩, by decide⟩, ⟨gW_at (i := 1659) rfl rfl, gW_at (i := 2335) rfl rfl, gW_at (i := 505) rfl rfl⟩, by decide⟩
set_option maxRecDepth 100000 in
theorem db_charS_2 : decode prog_28_method_88_code 2 = .ok (.invokespecial 329, 3) := rfl
set_option maxRecDepth 100000 in
theorem db_charS_5 : decode prog_28_method_88_code 5 = .ok (.ireturn, 1) := rfl
set_option maxHeartbeats 4000000 in
set_option maxRecDepth 100000 in
theorem b_charS {i : Int} : BC yb_charS prog_28_method_88_code 2 (some .char) 3 260 0 0 bs (fun x adr => [.ref bs, .int (iN i)]) (fun x => 0 ≤ i ∧ i < (xN x : Int)) (fun x v x' => v = some (.int (iN (xT x i.toNat))) ∧ x' = x) := by
  refine bc_of (by decide) rfl (fun _ _ => by simp [lg_sl, Value.category]) ?_
  intro p l e s m args below meth c D tA n0 adr adV sz x ls hP X hz g hret hlk hl
  have hl : lv_has ls 2 [(0, .ref bs), (1, .int (iN i))] := hl
  refine lv_aload_n (i := 0) (x := bs) X.1 X.2.1 db_charS_0 rfl (lv_at hl 0 rfl) ?_
  refine lv_iload_n (i := 1) (x := iN i) X.1 X.2.1 db_charS_1 rfl (lv_at hl 1 rfl) ?_
  refine b_callU (As := [.int (iN i)]) (rest := []) X hz g (b_charAt0) hP wb_21 rfl rfl hl.1 ⟨by decide, by decide⟩ ⟨by decide, by decide⟩ (by simp [Value.category]) rfl db_charS_2 (fun v x1 H1 lc1 hv1 g1 => ?_)
  obtain ⟨rfl, rfl⟩ := hv1
  exact b_zret (v := iN (xT x1 i.toNat)) X hret (ch_id (g1.2.2.1.2.2 _).1 (g1.2.2.1.2.2 _).2).2 hlk g1 ⟨rfl, rfl⟩ (by omega) (by omega) db_charS_5
end B2

/-! TOLD, 1: the text of a timber; the reference tells it. -/
def dgW (v : Int) : List Int := if v ≤ 9 then [48 + v] else [48 + v / 10, 48 + v % 10]
def rgW (A : Rw) : Nat → List Int
  | 0 => []
  | r + 1 => rgW A r ++ (32 :: dgW (A.1 r) ++ (if A.2.2 r = 0 then [] else [63]))
def tW0 : List Int := [116, 105, 109, 98, 101, 114]
def txW (le mo : Int) (A : Rw) : List Int := tW0 ++ (32 :: dgW le) ++ (32 :: dgW mo) ++ rgW A A.2.1.toNat ++ [59]
theorem dgW_len (v : Int) : 1 ≤ (dgW v).length ∧ (dgW v).length ≤ 2 := by
  unfold dgW
  split <;> simp
theorem rgW_len (A : Rw) : ∀ r, (rgW A r).length ≤ 4 * r
  | 0 => by simp [rgW]
  | r + 1 => by
    have h1 := rgW_len A r
    have h2 := (dgW_len (A.1 r)).2
    have h3 : (if A.2.2 r = 0 then ([] : List Int) else [63]).length ≤ 1 := by split <;> simp
    simp only [rgW, List.length_append, List.length_cons]
    omega
theorem txW_len {le mo : Int} {A : Rw} (h : A.2.1 ≤ 24) : (txW le mo A).length ≤ 109 := by
  have h1 := rgW_len A A.2.1.toNat
  have h2 := (dgW_len le).2
  have h3 := (dgW_len mo).2
  have h4 : tW0.length = 6 := rfl
  simp only [txW, List.length_append, List.length_cons, List.length_nil]
  omega
def txP : Nat → Nat → Prop := fun b j => b = 154 ∧ j = 68 ∨ b = 185
/-- the text w told, out of M0 -/
def txM (M0 M : Mm) (w : List Int) : Prop := M 154 68 = (w.length : Int) ∧ (∀ j, j < w.length → M 185 j = w.getD j 0) ∧ FrP txP M0 M
def mSay (M : Mm) (n : Nat) (c : Int) : Mm := mset (mset M 185 n c) 154 68 ((n : Int) + 1)
theorem getD_app {w : List Int} {c : Int} {j : Nat} (h : j < w.length + 1) : (w ++ [c]).getD j 0 = if j = w.length then c else w.getD j 0 := by
  by_cases e : j = w.length
  · subst e
    rw [if_pos rfl, List.getD_eq_getElem?_getD, List.getElem?_append_right (Nat.le_refl _), Nat.sub_self]
    rfl
  · rw [if_neg e, List.getD_eq_getElem?_getD, List.getElem?_append_left (by omega), List.getD_eq_getElem?_getD]
theorem txM_app {M0 M : Mm} {w : List Int} {c : Int} (h : txM M0 M w) : txM M0 (mSay M w.length c) (w ++ [c]) := by
  obtain ⟨h1, h2, h3⟩ := h
  refine ⟨?_, fun j hj => ?_, fun b j z => ?_⟩
  · simp [mSay, mset]
  · have hj' : j < w.length + 1 := by simpa using hj
    rw [getD_app hj']
    by_cases e : j = w.length
    · subst e
      rw [if_pos rfl]
      simp [mSay, mset]
    · rw [if_neg e, ← h2 j (by omega)]
      simp [mSay, mset, e]
  · rw [← h3 b j z]
    have z' : ¬ (b = 154 ∧ j = 68) ∧ b ≠ 185 := by
      constructor
      · exact fun y => z (.inl y)
      · exact fun y => z (.inr y)
    show (if b = 154 ∧ j = 68 then _ else if b = 185 ∧ j = w.length then _ else M b j) = M b j
    rw [if_neg z'.1, if_neg (fun y => z'.2 y.1)]
section MT
variable {n : Nat} {T : Nat → Rw} {Y : Nat → Int} {lap bnd mrg : Int} {M M0 : Mm} {w : List Int}
set_option maxHeartbeats 600000 in
set_option maxRecDepth 20000 in
theorem Model_says_ok {k : Nat} {c : Int} (h : M 154 68 = k) (hk : k < 200) : CallV m_Model_says [.inr 154, .inl c] M (fun M' => M' = mSay M k c) := by
  have e2 : ∀ v, mset M 185 k v 154 68 = k := fun v => by rw [← h]; simp [mset]
  have hk0 := eq_true (show (0 : Int) ≤ (k : Int) by omega)
  have hk1 := eq_true (show (k : Int) < ((200 : Nat) : Int) by omega)
  refine callP_of (by decide) (by decide) (Nat.le_of_ble_eq_true rfl) (wpm_of (cuts := []) (by decide) 60 _ _ _ _ ?_)
  rw [show lM m_Model_says = 2 from rfl]
  simp (maxSteps := 2000000) only [↓reduceIte, wp_eq, wpd_eq, kont_eq, STP1, STP2, STP3, STP4, STP5, konM_eq, AMK, CZ, Option.map, List.getElem?_cons_zero, List.getElem?_cons_succ, List.mem_cons, List.not_mem_nil, if_false, if_true, Nat.reduceAdd, Nat.reduceLT, Nat.reduceLeDiff, Nat.reduceEqDiff, true_and, and_true, List.length_nil, List.length_cons, or_true, true_or, or_false, false_or, Option.some.injEq, Sum.inl.injEq, Sum.inr.injEq, exists_eq_left', exists_eq_left, Int.reduceLE, Int.reduceLT, Int.reduceNeg, Int.reduceAdd, Int.reduceMul, Int.reduceSub, Int.reduceToNat, inR, Nat.zero_ne_one, false_and, Nat.succ_ne_zero, reduceCtorEq, false_implies, true_implies, not_false_eq_true, not_true_eq_false, Int.reduceEq, KRE, C_Model_says, FM, h, natT, e2]
  repeat (first | refine ⟨by omega, ?_⟩ | refine ⟨fun _ _ => okt_nn (by omega), ?_⟩)
  try (first | (show _ ≤ _; omega) | (show _ < _; omega))
  try exact rfl
theorem says_tx {c : Int} (h : txM M0 M w) (hw : w.length < 200) : CallV m_Model_says [.inr 154, .inl c] M (fun M' => txM M0 M' (w ++ [c])) := (Model_says_ok h.1 hw).mono (fun M' z => by rw [z]; exact txM_app h)
set_option maxHeartbeats 600000 in
set_option maxRecDepth 20000 in
theorem saysN_tx {v : Int} (h : txM M0 M w) (hw : w.length < 190) (h0 : 0 ≤ v) (h1 : v ≤ 99) : CallV m_Model_saysNumber [.inr 154, .inl v] M (fun M' => txM M0 M' (w ++ 32 :: dgW v)) := by
  refine callP_of (by decide) (by decide) (Nat.le_of_ble_eq_true rfl) (wpm_of (cuts := []) (by decide) 60 _ _ _ _ ?_)
  rw [show lM m_Model_saysNumber = 2 from rfl]
  simp (maxSteps := 2000000) only [↓reduceIte, wp_eq, wpd_eq, kont_eq, STP1, STP2, STP3, STP4, STP5, konM_eq, AMK, CZ, Option.map, List.getElem?_cons_zero, List.getElem?_cons_succ, List.mem_cons, List.not_mem_nil, if_false, if_true, Nat.reduceAdd, Nat.reduceLT, Nat.reduceLeDiff, Nat.reduceEqDiff, true_and, and_true, List.length_nil, List.length_cons, or_true, true_or, or_false, false_or, Option.some.injEq, Sum.inl.injEq, Sum.inr.injEq, exists_eq_left', exists_eq_left, Int.reduceLE, Int.reduceLT, Int.reduceNeg, Int.reduceAdd, Int.reduceMul, Int.reduceSub, Int.reduceToNat, inR, Nat.zero_ne_one, false_and, Nat.succ_ne_zero, reduceCtorEq, false_implies, true_implies, not_false_eq_true, not_true_eq_false, Int.reduceEq, KRE, C_Model_saysNumber, FM]
  repeat (first | refine ⟨by omega, ?_⟩ | refine ⟨fun _ _ => okt_nn (by omega), ?_⟩)
  try (first | (show _ ≤ _; omega) | (show _ < _; omega))
  refine (says_tx h (by omega)).mono (fun M1 g1 => ?_)
  by_cases c : v ≤ 9
  · have c' := eq_true c
    try simp (maxSteps := 2000000) only [↓reduceIte, wp_eq, wpd_eq, kont_eq, STP1, STP2, STP3, STP4, STP5, konM_eq, AMK, CZ, Option.map, List.getElem?_cons_zero, List.getElem?_cons_succ, List.mem_cons, List.not_mem_nil, if_false, if_true, Nat.reduceAdd, Nat.reduceLT, Nat.reduceLeDiff, Nat.reduceEqDiff, true_and, and_true, List.length_nil, List.length_cons, or_true, true_or, or_false, false_or, Option.some.injEq, Sum.inl.injEq, Sum.inr.injEq, exists_eq_left', exists_eq_left, Int.reduceLE, Int.reduceLT, Int.reduceNeg, Int.reduceAdd, Int.reduceMul, Int.reduceSub, Int.reduceToNat, inR, Nat.zero_ne_one, false_and, Nat.succ_ne_zero, reduceCtorEq, false_implies, true_implies, not_false_eq_true, not_true_eq_false, Int.reduceEq, KRE, C_Model_saysNumber, FM, c']
    repeat (first | refine ⟨by omega, ?_⟩ | refine ⟨fun _ _ => okt_nn (by omega), ?_⟩)
    try (first | (show _ ≤ _; omega) | (show _ < _; omega))
    refine (says_tx (c := 48 + v.tmod 10) g1 (by simp; omega)).mono (fun M2 g2 => ?_)
    have e : w ++ 32 :: dgW v = w ++ [32] ++ [48 + v.tmod 10] := by
      unfold dgW
      rw [if_pos c, Int.tmod_eq_emod_of_nonneg h0, show v % 10 = v by omega]
      simp
    rw [e]
    try simp (maxSteps := 2000000) only [↓reduceIte, wp_eq, wpd_eq, kont_eq, STP1, STP2, STP3, STP4, STP5, konM_eq, AMK, CZ, Option.map, List.getElem?_cons_zero, List.getElem?_cons_succ, List.mem_cons, List.not_mem_nil, if_false, if_true, Nat.reduceAdd, Nat.reduceLT, Nat.reduceLeDiff, Nat.reduceEqDiff, true_and, and_true, List.length_nil, List.length_cons, or_true, true_or, or_false, false_or, Option.some.injEq, Sum.inl.injEq, Sum.inr.injEq, exists_eq_left', exists_eq_left, Int.reduceLE, Int.reduceLT, Int.reduceNeg, Int.reduceAdd, Int.reduceMul, Int.reduceSub, Int.reduceToNat, inR, Nat.zero_ne_one, false_and, Nat.succ_ne_zero, reduceCtorEq, false_implies, true_implies, not_false_eq_true, not_true_eq_false, Int.reduceEq, KRE, C_Model_saysNumber, FM]
    first | exact g2 | exact ⟨rfl, g2⟩ | exact ⟨by simp, g2⟩ | exact ⟨by omega, g2⟩ | exact ⟨by simp, rfl, g2⟩ | exact ⟨by omega, rfl, g2⟩ | exact ⟨by simp, by simp, g2⟩ | exact ⟨by omega, by simp, g2⟩ | (simp; first | exact g2 | exact ⟨by omega, g2⟩)
  · have c' := eq_false c
    try simp (maxSteps := 2000000) only [↓reduceIte, wp_eq, wpd_eq, kont_eq, STP1, STP2, STP3, STP4, STP5, konM_eq, AMK, CZ, Option.map, List.getElem?_cons_zero, List.getElem?_cons_succ, List.mem_cons, List.not_mem_nil, if_false, if_true, Nat.reduceAdd, Nat.reduceLT, Nat.reduceLeDiff, Nat.reduceEqDiff, true_and, and_true, List.length_nil, List.length_cons, or_true, true_or, or_false, false_or, Option.some.injEq, Sum.inl.injEq, Sum.inr.injEq, exists_eq_left', exists_eq_left, Int.reduceLE, Int.reduceLT, Int.reduceNeg, Int.reduceAdd, Int.reduceMul, Int.reduceSub, Int.reduceToNat, inR, Nat.zero_ne_one, false_and, Nat.succ_ne_zero, reduceCtorEq, false_implies, true_implies, not_false_eq_true, not_true_eq_false, Int.reduceEq, KRE, C_Model_saysNumber, FM, c']
    repeat (first | refine ⟨by omega, ?_⟩ | refine ⟨fun _ _ => okt_nn (by omega), ?_⟩)
    try (first | (show _ ≤ _; omega) | (show _ < _; omega))
    refine (says_tx (c := 48 + v.tdiv 10) g1 (by simp; omega)).mono (fun M2 g2 => ?_)
    try simp (maxSteps := 2000000) only [↓reduceIte, wp_eq, wpd_eq, kont_eq, STP1, STP2, STP3, STP4, STP5, konM_eq, AMK, CZ, Option.map, List.getElem?_cons_zero, List.getElem?_cons_succ, List.mem_cons, List.not_mem_nil, if_false, if_true, Nat.reduceAdd, Nat.reduceLT, Nat.reduceLeDiff, Nat.reduceEqDiff, true_and, and_true, List.length_nil, List.length_cons, or_true, true_or, or_false, false_or, Option.some.injEq, Sum.inl.injEq, Sum.inr.injEq, exists_eq_left', exists_eq_left, Int.reduceLE, Int.reduceLT, Int.reduceNeg, Int.reduceAdd, Int.reduceMul, Int.reduceSub, Int.reduceToNat, inR, Nat.zero_ne_one, false_and, Nat.succ_ne_zero, reduceCtorEq, false_implies, true_implies, not_false_eq_true, not_true_eq_false, Int.reduceEq, KRE, C_Model_saysNumber, FM]
    repeat (first | refine ⟨by omega, ?_⟩ | refine ⟨fun _ _ => okt_nn (by omega), ?_⟩)
    try (first | (show _ ≤ _; omega) | (show _ < _; omega))
    refine (says_tx (c := 48 + v.tmod 10) g2 (by simp; omega)).mono (fun M3 g3 => ?_)
    have e : w ++ 32 :: dgW v = w ++ [32] ++ [48 + v.tdiv 10] ++ [48 + v.tmod 10] := by
      unfold dgW
      rw [if_neg c, Int.tmod_eq_emod_of_nonneg h0, Int.tdiv_eq_ediv_of_nonneg h0]
      simp
    rw [e]
    try simp (maxSteps := 2000000) only [↓reduceIte, wp_eq, wpd_eq, kont_eq, STP1, STP2, STP3, STP4, STP5, konM_eq, AMK, CZ, Option.map, List.getElem?_cons_zero, List.getElem?_cons_succ, List.mem_cons, List.not_mem_nil, if_false, if_true, Nat.reduceAdd, Nat.reduceLT, Nat.reduceLeDiff, Nat.reduceEqDiff, true_and, and_true, List.length_nil, List.length_cons, or_true, true_or, or_false, false_or, Option.some.injEq, Sum.inl.injEq, Sum.inr.injEq, exists_eq_left', exists_eq_left, Int.reduceLE, Int.reduceLT, Int.reduceNeg, Int.reduceAdd, Int.reduceMul, Int.reduceSub, Int.reduceToNat, inR, Nat.zero_ne_one, false_and, Nat.succ_ne_zero, reduceCtorEq, false_implies, true_implies, not_false_eq_true, not_true_eq_false, Int.reduceEq, KRE, C_Model_saysNumber, FM]
    first | exact g3 | exact ⟨rfl, g3⟩ | exact ⟨by simp, g3⟩ | exact ⟨by omega, g3⟩ | exact ⟨by simp, rfl, g3⟩ | exact ⟨by omega, rfl, g3⟩ | exact ⟨by simp, by simp, g3⟩ | exact ⟨by omega, by simp, g3⟩ | (simp; first | exact g3 | exact ⟨by omega, g3⟩)
theorem tW0_take : ∀ k, k < 6 → tW0.take (k + 1) = tW0.take k ++ [strCh 0 k] := by decide +kernel
set_option maxHeartbeats 600000 in
set_option maxRecDepth 20000 in
theorem tellText_ok {t : Nat} (h : mdl M n T Y lap bnd mrg) (ht : t < n) : CallV m_Model_tellText [.inr 154, .inl (t : Int)] M (fun M' => txM M M' (txW (M 158 (30 * t + 1)) (M 158 (30 * t + 2)) (T t))) := by
  obtain ⟨⟨n8, g1⟩, g2, g3, g4, g5, g6, -⟩ := mdl_t h ht
  obtain ⟨eT, -, -⟩ := h.2.1 t ht
  obtain ⟨⟨o1, o2⟩, o3, o4⟩ := g4
  have hr := rcS (show 0 < 7 by omega)
  have e191 : ([191, 192, 193, 194, 195, 196] : List Nat).getD 0 0 = NN + 0 := rfl
  have SL := fun M1 => String_length_ok (i := 0) (by omega) (M := M1)
  have SC := fun k hk M1 => String_charAt_ok (i := 0) (k := k) (by omega) hk (M := M1)
  have l6 : strLen.getD 0 0 = 6 := rfl
  rw [l6] at SL SC
  have mofE : ∀ (M1 : Mm) (k : Int), FrP txP M M1 → 0 ≤ k → k < 30 → CallI m_Model_of [.inr 154, .inl (t : Int), .inl k] M1 (fun x M' => x = M 158 (30 * (t : Int) + k).toNat ∧ M' = M1) := fun M1 k F k0 k1 => (Model_of_ok ⟨by omega, by omega⟩).mono (fun x M' z => ⟨by rw [z.1]; exact F _ _ (fun y => by unfold txP at y; omega), z.2⟩)
  have hd : inR (M 158 (30 * t + 5)) := g6.2.2.2.1
  refine callP_of (by decide) (by decide) (Nat.le_of_ble_eq_true rfl) (wpm_of (cuts := [7, 62]) (by decide) 60 _ _ _ _ ?_)
  rw [show lM m_Model_tellText = 3 from rfl]
  simp (maxSteps := 2000000) only [↓reduceIte, wp_eq, wpd_eq, kont_eq, STP1, STP2, STP3, STP4, STP5, konM_eq, AMK, CZ, Option.map, List.getElem?_cons_zero, List.getElem?_cons_succ, List.mem_cons, List.not_mem_nil, if_false, if_true, Nat.reduceAdd, Nat.reduceLT, Nat.reduceLeDiff, Nat.reduceEqDiff, true_and, and_true, List.length_nil, List.length_cons, or_true, true_or, or_false, false_or, Option.some.injEq, Sum.inl.injEq, Sum.inr.injEq, exists_eq_left', exists_eq_left, Int.reduceLE, Int.reduceLT, Int.reduceNeg, Int.reduceAdd, Int.reduceMul, Int.reduceSub, Int.reduceToNat, inR, Nat.zero_ne_one, false_and, Nat.succ_ne_zero, reduceCtorEq, false_implies, true_implies, not_false_eq_true, not_true_eq_false, Int.reduceEq, KRE, C_Model_tellText, FM, e191]
  refine loopQ 6 (fun k ls M1 => txM M M1 (tW0.take k) ∧ ls = [some (.inr 154), some (.inl (t : Int)), some (.inl (k : Int))]) ?_ _ _ ⟨⟨by simp [mset], fun j hj => absurd hj (by simp), fun b j z => by
    show (if b = 154 ∧ j = 68 then (0 : Int) else M b j) = M b j
    rw [if_neg (fun y => z (.inl y))]⟩, rfl⟩
  rintro k _ M1 hk ⟨X1, rfl⟩ K
  by_cases ck : 6 ≤ (k : Int)
  · obtain rfl : k = 6 := by omega
    have c' := eq_true (show ((6 : Nat) : Int) ≤ ((6 : Nat) : Int) by omega)
    have X1 : txM M M1 tW0 := X1
    refine wpm_of (cuts := [7, 62]) (by decide) 60 _ _ _ _ ?_
    simp (maxSteps := 2000000) only [↓reduceIte, wp_eq, wpd_eq, kont_eq, STP1, STP2, STP3, STP4, STP5, konM_eq, AMK, CZ, Option.map, List.getElem?_cons_zero, List.getElem?_cons_succ, List.mem_cons, List.not_mem_nil, if_false, if_true, Nat.reduceAdd, Nat.reduceLT, Nat.reduceLeDiff, Nat.reduceEqDiff, true_and, and_true, List.length_nil, List.length_cons, or_true, true_or, or_false, false_or, Option.some.injEq, Sum.inl.injEq, Sum.inr.injEq, exists_eq_left', exists_eq_left, Int.reduceLE, Int.reduceLT, Int.reduceNeg, Int.reduceAdd, Int.reduceMul, Int.reduceSub, Int.reduceToNat, inR, Nat.zero_ne_one, false_and, Nat.succ_ne_zero, reduceCtorEq, false_implies, true_implies, not_false_eq_true, not_true_eq_false, Int.reduceEq, KRE, C_Model_tellText, FM, hr, e191]
    repeat (first | refine ⟨by omega, ?_⟩ | refine ⟨fun _ _ => okt_nn (by omega), ?_⟩)
    try (first | (show _ ≤ _; omega) | (show _ < _; omega))
    refine (SL M1).eq ?_
    try simp (maxSteps := 2000000) only [↓reduceIte, wp_eq, wpd_eq, kont_eq, STP1, STP2, STP3, STP4, STP5, konM_eq, AMK, CZ, Option.map, List.getElem?_cons_zero, List.getElem?_cons_succ, List.mem_cons, List.not_mem_nil, if_false, if_true, Nat.reduceAdd, Nat.reduceLT, Nat.reduceLeDiff, Nat.reduceEqDiff, true_and, and_true, List.length_nil, List.length_cons, or_true, true_or, or_false, false_or, Option.some.injEq, Sum.inl.injEq, Sum.inr.injEq, exists_eq_left', exists_eq_left, Int.reduceLE, Int.reduceLT, Int.reduceNeg, Int.reduceAdd, Int.reduceMul, Int.reduceSub, Int.reduceToNat, inR, Nat.zero_ne_one, false_and, Nat.succ_ne_zero, reduceCtorEq, false_implies, true_implies, not_false_eq_true, not_true_eq_false, Int.reduceEq, KRE, C_Model_tellText, FM, c']
    repeat (first | refine ⟨by omega, ?_⟩ | refine ⟨fun _ _ => okt_nn (by omega), ?_⟩)
    try (first | (show _ ≤ _; omega) | (show _ < _; omega))
    refine (mofE M1 1 X1.2.2 (by omega) (by omega)).eq ?_
    try simp (maxSteps := 2000000) only [↓reduceIte, wp_eq, wpd_eq, kont_eq, STP1, STP2, STP3, STP4, STP5, konM_eq, AMK, CZ, Option.map, List.getElem?_cons_zero, List.getElem?_cons_succ, List.mem_cons, List.not_mem_nil, if_false, if_true, Nat.reduceAdd, Nat.reduceLT, Nat.reduceLeDiff, Nat.reduceEqDiff, true_and, and_true, List.length_nil, List.length_cons, or_true, true_or, or_false, false_or, Option.some.injEq, Sum.inl.injEq, Sum.inr.injEq, exists_eq_left', exists_eq_left, Int.reduceLE, Int.reduceLT, Int.reduceNeg, Int.reduceAdd, Int.reduceMul, Int.reduceSub, Int.reduceToNat, inR, Nat.zero_ne_one, false_and, Nat.succ_ne_zero, reduceCtorEq, false_implies, true_implies, not_false_eq_true, not_true_eq_false, Int.reduceEq, KRE, C_Model_tellText, FM]
    repeat (first | refine ⟨by omega, ?_⟩ | refine ⟨fun _ _ => okt_nn (by omega), ?_⟩)
    try (first | (show _ ≤ _; omega) | (show _ < _; omega))
    rw [show (30 * (t : Int) + 1).toNat = 30 * t + 1 by omega]
    refine (saysN_tx X1 (by decide) (by omega) (by omega)).mono (fun M2 X2 => ?_)
    try simp (maxSteps := 2000000) only [↓reduceIte, wp_eq, wpd_eq, kont_eq, STP1, STP2, STP3, STP4, STP5, konM_eq, AMK, CZ, Option.map, List.getElem?_cons_zero, List.getElem?_cons_succ, List.mem_cons, List.not_mem_nil, if_false, if_true, Nat.reduceAdd, Nat.reduceLT, Nat.reduceLeDiff, Nat.reduceEqDiff, true_and, and_true, List.length_nil, List.length_cons, or_true, true_or, or_false, false_or, Option.some.injEq, Sum.inl.injEq, Sum.inr.injEq, exists_eq_left', exists_eq_left, Int.reduceLE, Int.reduceLT, Int.reduceNeg, Int.reduceAdd, Int.reduceMul, Int.reduceSub, Int.reduceToNat, inR, Nat.zero_ne_one, false_and, Nat.succ_ne_zero, reduceCtorEq, false_implies, true_implies, not_false_eq_true, not_true_eq_false, Int.reduceEq, KRE, C_Model_tellText, FM]
    repeat (first | refine ⟨by omega, ?_⟩ | refine ⟨fun _ _ => okt_nn (by omega), ?_⟩)
    try (first | (show _ ≤ _; omega) | (show _ < _; omega))
    refine (mofE M2 2 X2.2.2 (by omega) (by omega)).eq ?_
    try simp (maxSteps := 2000000) only [↓reduceIte, wp_eq, wpd_eq, kont_eq, STP1, STP2, STP3, STP4, STP5, konM_eq, AMK, CZ, Option.map, List.getElem?_cons_zero, List.getElem?_cons_succ, List.mem_cons, List.not_mem_nil, if_false, if_true, Nat.reduceAdd, Nat.reduceLT, Nat.reduceLeDiff, Nat.reduceEqDiff, true_and, and_true, List.length_nil, List.length_cons, or_true, true_or, or_false, false_or, Option.some.injEq, Sum.inl.injEq, Sum.inr.injEq, exists_eq_left', exists_eq_left, Int.reduceLE, Int.reduceLT, Int.reduceNeg, Int.reduceAdd, Int.reduceMul, Int.reduceSub, Int.reduceToNat, inR, Nat.zero_ne_one, false_and, Nat.succ_ne_zero, reduceCtorEq, false_implies, true_implies, not_false_eq_true, not_true_eq_false, Int.reduceEq, KRE, C_Model_tellText, FM]
    repeat (first | refine ⟨by omega, ?_⟩ | refine ⟨fun _ _ => okt_nn (by omega), ?_⟩)
    try (first | (show _ ≤ _; omega) | (show _ < _; omega))
    rw [show (30 * (t : Int) + 2).toNat = 30 * t + 2 by omega]
    have d1 := (dgW_len (M 158 (30 * t + 1))).2
    have d2 := (dgW_len (M 158 (30 * t + 2))).2
    refine (saysN_tx X2 (by simp only [List.length_append, List.length_cons, show tW0.length = 6 from rfl]; omega) (by omega) (by omega)).mono (fun M3 X3 => ?_)
    have hL : (tW0 ++ 32 :: dgW (M 158 (30 * t + 1)) ++ 32 :: dgW (M 158 (30 * t + 2))).length ≤ 12 := by simp only [List.length_append, List.length_cons, show tW0.length = 6 from rfl]; omega
    unfold txW
    generalize tW0 ++ 32 :: dgW (M 158 (30 * t + 1)) ++ 32 :: dgW (M 158 (30 * t + 2)) = W at *
    try simp (maxSteps := 2000000) only [↓reduceIte, wp_eq, wpd_eq, kont_eq, STP1, STP2, STP3, STP4, STP5, konM_eq, AMK, CZ, Option.map, List.getElem?_cons_zero, List.getElem?_cons_succ, List.mem_cons, List.not_mem_nil, if_false, if_true, Nat.reduceAdd, Nat.reduceLT, Nat.reduceLeDiff, Nat.reduceEqDiff, true_and, and_true, List.length_nil, List.length_cons, or_true, true_or, or_false, false_or, Option.some.injEq, Sum.inl.injEq, Sum.inr.injEq, exists_eq_left', exists_eq_left, Int.reduceLE, Int.reduceLT, Int.reduceNeg, Int.reduceAdd, Int.reduceMul, Int.reduceSub, Int.reduceToNat, inR, Nat.zero_ne_one, false_and, Nat.succ_ne_zero, reduceCtorEq, false_implies, true_implies, not_false_eq_true, not_true_eq_false, Int.reduceEq, KRE, C_Model_tellText, FM]
    refine loopQ (T t).2.1.toNat (fun r ls M4 => txM M M4 (W ++ rgW (T t) r) ∧ ls = [some (.inr 154), some (.inl (t : Int)), some (.inl (r : Int))]) ?_ _ _ ⟨by simpa [rgW] using X3, rfl⟩
    rintro r _ M4 hr4 ⟨X4, rfl⟩ K2
    have hl4 := rgW_len (T t) r
    have hLr : (W ++ rgW (T t) r).length ≤ 12 + 4 * r := by rw [List.length_append]; omega
    by_cases cr : (T t).2.1 ≤ (r : Int)
    · have er : r = (T t).2.1.toNat := by omega
      have c2' := eq_true cr
      refine wpm_of (cuts := [7, 62]) (by decide) 60 _ _ _ _ ?_
      simp (maxSteps := 2000000) only [↓reduceIte, wp_eq, wpd_eq, kont_eq, STP1, STP2, STP3, STP4, STP5, konM_eq, AMK, CZ, Option.map, List.getElem?_cons_zero, List.getElem?_cons_succ, List.mem_cons, List.not_mem_nil, if_false, if_true, Nat.reduceAdd, Nat.reduceLT, Nat.reduceLeDiff, Nat.reduceEqDiff, true_and, and_true, List.length_nil, List.length_cons, or_true, true_or, or_false, false_or, Option.some.injEq, Sum.inl.injEq, Sum.inr.injEq, exists_eq_left', exists_eq_left, Int.reduceLE, Int.reduceLT, Int.reduceNeg, Int.reduceAdd, Int.reduceMul, Int.reduceSub, Int.reduceToNat, inR, Nat.zero_ne_one, false_and, Nat.succ_ne_zero, reduceCtorEq, false_implies, true_implies, not_false_eq_true, not_true_eq_false, Int.reduceEq, KRE, C_Model_tellText, FM, hr, e191]
      repeat (first | refine ⟨by omega, ?_⟩ | refine ⟨fun _ _ => okt_nn (by omega), ?_⟩)
      try (first | (show _ ≤ _; omega) | (show _ < _; omega))
      refine (mofE M4 0 X4.2.2 (by omega) (by omega)).eq ?_
      rw [show (30 * (t : Int) + 0).toNat = 30 * t by omega, g1]
      try simp (maxSteps := 2000000) only [↓reduceIte, wp_eq, wpd_eq, kont_eq, STP1, STP2, STP3, STP4, STP5, konM_eq, AMK, CZ, Option.map, List.getElem?_cons_zero, List.getElem?_cons_succ, List.mem_cons, List.not_mem_nil, if_false, if_true, Nat.reduceAdd, Nat.reduceLT, Nat.reduceLeDiff, Nat.reduceEqDiff, true_and, and_true, List.length_nil, List.length_cons, or_true, true_or, or_false, false_or, Option.some.injEq, Sum.inl.injEq, Sum.inr.injEq, exists_eq_left', exists_eq_left, Int.reduceLE, Int.reduceLT, Int.reduceNeg, Int.reduceAdd, Int.reduceMul, Int.reduceSub, Int.reduceToNat, inR, Nat.zero_ne_one, false_and, Nat.succ_ne_zero, reduceCtorEq, false_implies, true_implies, not_false_eq_true, not_true_eq_false, Int.reduceEq, KRE, C_Model_tellText, FM, c2']
      repeat (first | refine ⟨by omega, ?_⟩ | refine ⟨fun _ _ => okt_nn (by omega), ?_⟩)
      try (first | (show _ ≤ _; omega) | (show _ < _; omega))
      refine (says_tx (c := 59) X4 (by omega)).mono (fun M5 X5 => ?_)
      rw [er] at X5
      try simp (maxSteps := 2000000) only [↓reduceIte, wp_eq, wpd_eq, kont_eq, STP1, STP2, STP3, STP4, STP5, konM_eq, AMK, CZ, Option.map, List.getElem?_cons_zero, List.getElem?_cons_succ, List.mem_cons, List.not_mem_nil, if_false, if_true, Nat.reduceAdd, Nat.reduceLT, Nat.reduceLeDiff, Nat.reduceEqDiff, true_and, and_true, List.length_nil, List.length_cons, or_true, true_or, or_false, false_or, Option.some.injEq, Sum.inl.injEq, Sum.inr.injEq, exists_eq_left', exists_eq_left, Int.reduceLE, Int.reduceLT, Int.reduceNeg, Int.reduceAdd, Int.reduceMul, Int.reduceSub, Int.reduceToNat, inR, Nat.zero_ne_one, false_and, Nat.succ_ne_zero, reduceCtorEq, false_implies, true_implies, not_false_eq_true, not_true_eq_false, Int.reduceEq, KRE, C_Model_tellText, FM]
      first | exact X5 | exact ⟨rfl, X5⟩ | exact ⟨by simp, X5⟩ | exact ⟨by omega, X5⟩ | exact ⟨by simp, rfl, X5⟩ | exact ⟨by omega, rfl, X5⟩ | exact ⟨by simp, by simp, X5⟩ | exact ⟨by omega, by simp, X5⟩ | (simp; first | exact X5 | exact ⟨by omega, X5⟩)
    · have c2' := eq_false cr
      have er : r < (T t).2.1.toNat := by omega
      have ew : M 158 (30 * t + 6 + r) = (T t).1 r := by
        rw [← eT]
        show _ = if (r : Int) < M 158 (30 * t) then M 158 (30 * t + 6 + r) else 0
        rw [if_pos (by omega)]
      have ed : (T t).2.2 r = if btI (M 158 (30 * t + 5)) r = true then 1 else 0 := by
        rw [← eT]
        show (if (r : Int) < M 158 (30 * t) then (if btI (M 158 (30 * t + 5)) r = true then 1 else 0) else 0) = _
        rw [if_pos (by omega)]
      obtain ⟨w1, w2⟩ := o3 r (by omega)
      have K3 := K2 er
      rw [show rgW (T t) (r + 1) = rgW (T t) r ++ (32 :: dgW ((T t).1 r) ++ (if (T t).2.2 r = 0 then [] else [63])) from rfl] at K3
      refine wpm_of (cuts := [7, 62]) (by decide) 60 _ _ _ _ ?_
      simp (maxSteps := 2000000) only [↓reduceIte, wp_eq, wpd_eq, kont_eq, STP1, STP2, STP3, STP4, STP5, konM_eq, AMK, CZ, Option.map, List.getElem?_cons_zero, List.getElem?_cons_succ, List.mem_cons, List.not_mem_nil, if_false, if_true, Nat.reduceAdd, Nat.reduceLT, Nat.reduceLeDiff, Nat.reduceEqDiff, true_and, and_true, List.length_nil, List.length_cons, or_true, true_or, or_false, false_or, Option.some.injEq, Sum.inl.injEq, Sum.inr.injEq, exists_eq_left', exists_eq_left, Int.reduceLE, Int.reduceLT, Int.reduceNeg, Int.reduceAdd, Int.reduceMul, Int.reduceSub, Int.reduceToNat, inR, Nat.zero_ne_one, false_and, Nat.succ_ne_zero, reduceCtorEq, false_implies, true_implies, not_false_eq_true, not_true_eq_false, Int.reduceEq, KRE, C_Model_tellText, FM, hr, e191]
      repeat (first | refine ⟨by omega, ?_⟩ | refine ⟨fun _ _ => okt_nn (by omega), ?_⟩)
      try (first | (show _ ≤ _; omega) | (show _ < _; omega))
      refine (mofE M4 0 X4.2.2 (by omega) (by omega)).eq ?_
      rw [show (30 * (t : Int) + 0).toNat = 30 * t by omega, g1]
      try simp (maxSteps := 2000000) only [↓reduceIte, wp_eq, wpd_eq, kont_eq, STP1, STP2, STP3, STP4, STP5, konM_eq, AMK, CZ, Option.map, List.getElem?_cons_zero, List.getElem?_cons_succ, List.mem_cons, List.not_mem_nil, if_false, if_true, Nat.reduceAdd, Nat.reduceLT, Nat.reduceLeDiff, Nat.reduceEqDiff, true_and, and_true, List.length_nil, List.length_cons, or_true, true_or, or_false, false_or, Option.some.injEq, Sum.inl.injEq, Sum.inr.injEq, exists_eq_left', exists_eq_left, Int.reduceLE, Int.reduceLT, Int.reduceNeg, Int.reduceAdd, Int.reduceMul, Int.reduceSub, Int.reduceToNat, inR, Nat.zero_ne_one, false_and, Nat.succ_ne_zero, reduceCtorEq, false_implies, true_implies, not_false_eq_true, not_true_eq_false, Int.reduceEq, KRE, C_Model_tellText, FM, c2']
      repeat (first | refine ⟨by omega, ?_⟩ | refine ⟨fun _ _ => okt_nn (by omega), ?_⟩)
      try (first | (show _ ≤ _; omega) | (show _ < _; omega))
      refine (mofE M4 (6 + (r : Int)) X4.2.2 (by omega) (by omega)).eq ?_
      rw [show (30 * (t : Int) + (6 + (r : Int))).toNat = 30 * t + 6 + r by omega, ew]
      try simp (maxSteps := 2000000) only [↓reduceIte, wp_eq, wpd_eq, kont_eq, STP1, STP2, STP3, STP4, STP5, konM_eq, AMK, CZ, Option.map, List.getElem?_cons_zero, List.getElem?_cons_succ, List.mem_cons, List.not_mem_nil, if_false, if_true, Nat.reduceAdd, Nat.reduceLT, Nat.reduceLeDiff, Nat.reduceEqDiff, true_and, and_true, List.length_nil, List.length_cons, or_true, true_or, or_false, false_or, Option.some.injEq, Sum.inl.injEq, Sum.inr.injEq, exists_eq_left', exists_eq_left, Int.reduceLE, Int.reduceLT, Int.reduceNeg, Int.reduceAdd, Int.reduceMul, Int.reduceSub, Int.reduceToNat, inR, Nat.zero_ne_one, false_and, Nat.succ_ne_zero, reduceCtorEq, false_implies, true_implies, not_false_eq_true, not_true_eq_false, Int.reduceEq, KRE, C_Model_tellText, FM]
      repeat (first | refine ⟨by omega, ?_⟩ | refine ⟨fun _ _ => okt_nn (by omega), ?_⟩)
      try (first | (show _ ≤ _; omega) | (show _ < _; omega))
      refine (saysN_tx X4 (by omega) (by omega) (by omega)).mono (fun M5 X5 => ?_)
      have d5 := (dgW_len ((T t).1 r)).2
      try simp (maxSteps := 2000000) only [↓reduceIte, wp_eq, wpd_eq, kont_eq, STP1, STP2, STP3, STP4, STP5, konM_eq, AMK, CZ, Option.map, List.getElem?_cons_zero, List.getElem?_cons_succ, List.mem_cons, List.not_mem_nil, if_false, if_true, Nat.reduceAdd, Nat.reduceLT, Nat.reduceLeDiff, Nat.reduceEqDiff, true_and, and_true, List.length_nil, List.length_cons, or_true, true_or, or_false, false_or, Option.some.injEq, Sum.inl.injEq, Sum.inr.injEq, exists_eq_left', exists_eq_left, Int.reduceLE, Int.reduceLT, Int.reduceNeg, Int.reduceAdd, Int.reduceMul, Int.reduceSub, Int.reduceToNat, inR, Nat.zero_ne_one, false_and, Nat.succ_ne_zero, reduceCtorEq, false_implies, true_implies, not_false_eq_true, not_true_eq_false, Int.reduceEq, KRE, C_Model_tellText, FM]
      repeat (first | refine ⟨by omega, ?_⟩ | refine ⟨fun _ _ => okt_nn (by omega), ?_⟩)
      try (first | (show _ ≤ _; omega) | (show _ < _; omega))
      refine (mofE M5 5 X5.2.2 (by omega) (by omega)).eq ?_
      rw [show (30 * (t : Int) + 5).toNat = 30 * t + 5 by omega]
      have bt := bit_testI (M 158 (30 * t + 5)) (k := (r : Int)) (by omega) (by omega)
      rw [show ((r : Int)).toNat = r by omega] at bt
      cases cb : btI (M 158 (30 * t + 5)) r with
      | true =>
        rw [cb, if_pos rfl] at bt
        rw [cb, if_pos rfl] at ed
        try simp (maxSteps := 2000000) only [↓reduceIte, wp_eq, wpd_eq, kont_eq, STP1, STP2, STP3, STP4, STP5, konM_eq, AMK, CZ, Option.map, List.getElem?_cons_zero, List.getElem?_cons_succ, List.mem_cons, List.not_mem_nil, if_false, if_true, Nat.reduceAdd, Nat.reduceLT, Nat.reduceLeDiff, Nat.reduceEqDiff, true_and, and_true, List.length_nil, List.length_cons, or_true, true_or, or_false, false_or, Option.some.injEq, Sum.inl.injEq, Sum.inr.injEq, exists_eq_left', exists_eq_left, Int.reduceLE, Int.reduceLT, Int.reduceNeg, Int.reduceAdd, Int.reduceMul, Int.reduceSub, Int.reduceToNat, inR, Nat.zero_ne_one, false_and, Nat.succ_ne_zero, reduceCtorEq, false_implies, true_implies, not_false_eq_true, not_true_eq_false, Int.reduceEq, KRE, C_Model_tellText, FM, bt]
        repeat (first | refine ⟨by omega, ?_⟩ | refine ⟨fun _ _ => okt_nn (by omega), ?_⟩)
        try (first | (show _ ≤ _; omega) | (show _ < _; omega))
        refine (says_tx (c := 63) X5 (by simp only [List.length_append, List.length_cons]; omega)).mono (fun M6 X6 => ?_)
        have K4 := K3 [some (.inr 154), some (.inl (t : Int)), some (.inl ((r + 1 : Nat) : Int))] M6 ⟨by
          rw [ed, if_neg (by omega)]
          simpa [List.append_assoc] using X6, rfl⟩
        rw [show ((r + 1 : Nat) : Int) = (r : Int) + 1 by omega] at K4
        try simp (maxSteps := 2000000) only [↓reduceIte, wp_eq, wpd_eq, kont_eq, STP1, STP2, STP3, STP4, STP5, konM_eq, AMK, CZ, Option.map, List.getElem?_cons_zero, List.getElem?_cons_succ, List.mem_cons, List.not_mem_nil, if_false, if_true, Nat.reduceAdd, Nat.reduceLT, Nat.reduceLeDiff, Nat.reduceEqDiff, true_and, and_true, List.length_nil, List.length_cons, or_true, true_or, or_false, false_or, Option.some.injEq, Sum.inl.injEq, Sum.inr.injEq, exists_eq_left', exists_eq_left, Int.reduceLE, Int.reduceLT, Int.reduceNeg, Int.reduceAdd, Int.reduceMul, Int.reduceSub, Int.reduceToNat, inR, Nat.zero_ne_one, false_and, Nat.succ_ne_zero, reduceCtorEq, false_implies, true_implies, not_false_eq_true, not_true_eq_false, Int.reduceEq, KRE, C_Model_tellText, FM]
        first | exact K4 | exact ⟨rfl, K4⟩ | exact ⟨by simp, K4⟩ | exact ⟨by omega, K4⟩ | exact ⟨by simp, rfl, K4⟩ | exact ⟨by omega, rfl, K4⟩ | exact ⟨by simp, by simp, K4⟩ | exact ⟨by omega, by simp, K4⟩ | (simp; first | exact K4 | exact ⟨by omega, K4⟩)
      | false =>
        rw [cb, if_neg (by decide)] at bt
        rw [cb, if_neg (by decide)] at ed
        have K4 := K3 [some (.inr 154), some (.inl (t : Int)), some (.inl ((r + 1 : Nat) : Int))] M5 ⟨by
          rw [ed, if_pos rfl]
          simpa [List.append_assoc] using X5, rfl⟩
        rw [show ((r + 1 : Nat) : Int) = (r : Int) + 1 by omega] at K4
        try simp (maxSteps := 2000000) only [↓reduceIte, wp_eq, wpd_eq, kont_eq, STP1, STP2, STP3, STP4, STP5, konM_eq, AMK, CZ, Option.map, List.getElem?_cons_zero, List.getElem?_cons_succ, List.mem_cons, List.not_mem_nil, if_false, if_true, Nat.reduceAdd, Nat.reduceLT, Nat.reduceLeDiff, Nat.reduceEqDiff, true_and, and_true, List.length_nil, List.length_cons, or_true, true_or, or_false, false_or, Option.some.injEq, Sum.inl.injEq, Sum.inr.injEq, exists_eq_left', exists_eq_left, Int.reduceLE, Int.reduceLT, Int.reduceNeg, Int.reduceAdd, Int.reduceMul, Int.reduceSub, Int.reduceToNat, inR, Nat.zero_ne_one, false_and, Nat.succ_ne_zero, reduceCtorEq, false_implies, true_implies, not_false_eq_true, not_true_eq_false, Int.reduceEq, KRE, C_Model_tellText, FM, bt]
        repeat (first | refine ⟨by omega, ?_⟩ | refine ⟨fun _ _ => okt_nn (by omega), ?_⟩)
        try (first | (show _ ≤ _; omega) | (show _ < _; omega))
        first | exact K4 | exact ⟨rfl, K4⟩ | exact ⟨by simp, K4⟩ | exact ⟨by omega, K4⟩ | exact ⟨by simp, rfl, K4⟩ | exact ⟨by omega, rfl, K4⟩ | exact ⟨by simp, by simp, K4⟩ | exact ⟨by omega, by simp, K4⟩ | (simp; first | exact K4 | exact ⟨by omega, K4⟩)
  · have c' := eq_false ck
    have hk6 : k < 6 := by omega
    refine wpm_of (cuts := [7, 62]) (by decide) 60 _ _ _ _ ?_
    simp (maxSteps := 2000000) only [↓reduceIte, wp_eq, wpd_eq, kont_eq, STP1, STP2, STP3, STP4, STP5, konM_eq, AMK, CZ, Option.map, List.getElem?_cons_zero, List.getElem?_cons_succ, List.mem_cons, List.not_mem_nil, if_false, if_true, Nat.reduceAdd, Nat.reduceLT, Nat.reduceLeDiff, Nat.reduceEqDiff, true_and, and_true, List.length_nil, List.length_cons, or_true, true_or, or_false, false_or, Option.some.injEq, Sum.inl.injEq, Sum.inr.injEq, exists_eq_left', exists_eq_left, Int.reduceLE, Int.reduceLT, Int.reduceNeg, Int.reduceAdd, Int.reduceMul, Int.reduceSub, Int.reduceToNat, inR, Nat.zero_ne_one, false_and, Nat.succ_ne_zero, reduceCtorEq, false_implies, true_implies, not_false_eq_true, not_true_eq_false, Int.reduceEq, KRE, C_Model_tellText, FM, hr, e191]
    repeat (first | refine ⟨by omega, ?_⟩ | refine ⟨fun _ _ => okt_nn (by omega), ?_⟩)
    try (first | (show _ ≤ _; omega) | (show _ < _; omega))
    refine (SL M1).eq ?_
    try simp (maxSteps := 2000000) only [↓reduceIte, wp_eq, wpd_eq, kont_eq, STP1, STP2, STP3, STP4, STP5, konM_eq, AMK, CZ, Option.map, List.getElem?_cons_zero, List.getElem?_cons_succ, List.mem_cons, List.not_mem_nil, if_false, if_true, Nat.reduceAdd, Nat.reduceLT, Nat.reduceLeDiff, Nat.reduceEqDiff, true_and, and_true, List.length_nil, List.length_cons, or_true, true_or, or_false, false_or, Option.some.injEq, Sum.inl.injEq, Sum.inr.injEq, exists_eq_left', exists_eq_left, Int.reduceLE, Int.reduceLT, Int.reduceNeg, Int.reduceAdd, Int.reduceMul, Int.reduceSub, Int.reduceToNat, inR, Nat.zero_ne_one, false_and, Nat.succ_ne_zero, reduceCtorEq, false_implies, true_implies, not_false_eq_true, not_true_eq_false, Int.reduceEq, KRE, C_Model_tellText, FM, c', hr, e191]
    repeat (first | refine ⟨by omega, ?_⟩ | refine ⟨fun _ _ => okt_nn (by omega), ?_⟩)
    try (first | (show _ ≤ _; omega) | (show _ < _; omega))
    refine (SC k hk6 M1).eq ?_
    try simp (maxSteps := 2000000) only [↓reduceIte, wp_eq, wpd_eq, kont_eq, STP1, STP2, STP3, STP4, STP5, konM_eq, AMK, CZ, Option.map, List.getElem?_cons_zero, List.getElem?_cons_succ, List.mem_cons, List.not_mem_nil, if_false, if_true, Nat.reduceAdd, Nat.reduceLT, Nat.reduceLeDiff, Nat.reduceEqDiff, true_and, and_true, List.length_nil, List.length_cons, or_true, true_or, or_false, false_or, Option.some.injEq, Sum.inl.injEq, Sum.inr.injEq, exists_eq_left', exists_eq_left, Int.reduceLE, Int.reduceLT, Int.reduceNeg, Int.reduceAdd, Int.reduceMul, Int.reduceSub, Int.reduceToNat, inR, Nat.zero_ne_one, false_and, Nat.succ_ne_zero, reduceCtorEq, false_implies, true_implies, not_false_eq_true, not_true_eq_false, Int.reduceEq, KRE, C_Model_tellText, FM]
    repeat (first | refine ⟨by omega, ?_⟩ | refine ⟨fun _ _ => okt_nn (by omega), ?_⟩)
    try (first | (show _ ≤ _; omega) | (show _ < _; omega))
    refine (says_tx (c := strCh 0 k) X1 (by rw [List.length_take]; omega)).mono (fun M2 X2 => ?_)
    have K4 := K hk6 [some (.inr 154), some (.inl (t : Int)), some (.inl ((k + 1 : Nat) : Int))] M2 ⟨by rw [tW0_take k hk6]; exact X2, rfl⟩
    rw [show ((k + 1 : Nat) : Int) = (k : Int) + 1 by omega] at K4
    try simp (maxSteps := 2000000) only [↓reduceIte, wp_eq, wpd_eq, kont_eq, STP1, STP2, STP3, STP4, STP5, konM_eq, AMK, CZ, Option.map, List.getElem?_cons_zero, List.getElem?_cons_succ, List.mem_cons, List.not_mem_nil, if_false, if_true, Nat.reduceAdd, Nat.reduceLT, Nat.reduceLeDiff, Nat.reduceEqDiff, true_and, and_true, List.length_nil, List.length_cons, or_true, true_or, or_false, false_or, Option.some.injEq, Sum.inl.injEq, Sum.inr.injEq, exists_eq_left', exists_eq_left, Int.reduceLE, Int.reduceLT, Int.reduceNeg, Int.reduceAdd, Int.reduceMul, Int.reduceSub, Int.reduceToNat, inR, Nat.zero_ne_one, false_and, Nat.succ_ne_zero, reduceCtorEq, false_implies, true_implies, not_false_eq_true, not_true_eq_false, Int.reduceEq, KRE, C_Model_tellText, FM]
    first | exact K4 | exact ⟨rfl, K4⟩ | exact ⟨by simp, K4⟩ | exact ⟨by omega, K4⟩ | exact ⟨by simp, rfl, K4⟩ | exact ⟨by omega, rfl, K4⟩ | exact ⟨by simp, by simp, K4⟩ | exact ⟨by omega, by simp, K4⟩ | (simp; first | exact K4 | exact ⟨by omega, K4⟩)
/-- what told answers of the text w -/
def tdA (w : List Int) (i : Int) : Int := if i = -1 then w.length else w.getD i.toNat 0
def tdM (M M' : Mm) : Prop := ∀ b j, ¬ (b = 154 ∧ (j = 1 ∨ j = 68) ∨ b = 185) → M' b j = M b j
set_option maxHeartbeats 600000 in
set_option maxRecDepth 20000 in
theorem Mtold_ok {t : Nat} {i : Int} (h : mdl M n T Y lap bnd mrg) (ht : t < n) (hi : i = -1 ∨ 0 ≤ i ∧ i < (txW (M 158 (30 * t + 1)) (M 158 (30 * t + 2)) (T t)).length) (hiR : inR i) : CallI m_Model_told [.inr 154, .inl (t : Int), .inl i] M (fun x M' => x = tdA (txW (M 158 (30 * t + 1)) (M 158 (30 * t + 2)) (T t)) i ∧ rsM M 0 M') := by
  have h0 : mdl (mset M 154 1 0) n T Y lap bnd mrg := mdl_fr h scr_0 scr_mdl
  have TT := tellText_ok h0 ht
  have e1 : mset M 154 1 0 158 (30 * t + 1) = M 158 (30 * t + 1) := by simp [mset]
  have e2 : mset M 154 1 0 158 (30 * t + 2) = M 158 (30 * t + 2) := by simp [mset]
  rw [e1, e2] at TT
  have hw := txW_len (le := M 158 (30 * t + 1)) (mo := M 158 (30 * t + 2)) (A := T t) (mdl_t h ht).2.2.2.1.1.2
  generalize txW (M 158 (30 * t + 1)) (M 158 (30 * t + 2)) (T t) = W at *
  have fin : ∀ M', txM (mset M 154 1 0) M' W → rsM M 0 M' := fun M' X => by
    refine ⟨?_, fun b j z => ?_⟩
    · have := X.2.2 154 1 (fun y => by unfold txP at y; omega)
      rw [this]; simp [mset]
    · have z' : ¬ txP b j ∧ ¬ (b = 154 ∧ j = 1) := by
        unfold scrM at z
        unfold txP
        constructor <;> intro y <;> apply z <;> omega
      rw [X.2.2 b j z'.1]
      show (if b = 154 ∧ j = 1 then _ else M b j) = M b j
      rw [if_neg z'.2]
  refine callP_of (by decide) (by decide) (Nat.le_of_ble_eq_true rfl) (wpm_of (cuts := []) (by decide) 60 _ _ _ _ ?_)
  rw [show lM m_Model_told = 3 from rfl]
  simp (maxSteps := 2000000) only [↓reduceIte, wp_eq, wpd_eq, kont_eq, STP1, STP2, STP3, STP4, STP5, konM_eq, AMK, CZ, Option.map, List.getElem?_cons_zero, List.getElem?_cons_succ, List.mem_cons, List.not_mem_nil, if_false, if_true, Nat.reduceAdd, Nat.reduceLT, Nat.reduceLeDiff, Nat.reduceEqDiff, true_and, and_true, List.length_nil, List.length_cons, or_true, true_or, or_false, false_or, Option.some.injEq, Sum.inl.injEq, Sum.inr.injEq, exists_eq_left', exists_eq_left, Int.reduceLE, Int.reduceLT, Int.reduceNeg, Int.reduceAdd, Int.reduceMul, Int.reduceSub, Int.reduceToNat, inR, Nat.zero_ne_one, false_and, Nat.succ_ne_zero, reduceCtorEq, false_implies, true_implies, not_false_eq_true, not_true_eq_false, Int.reduceEq, KRE, C_Model_told, FM]
  repeat (first | refine ⟨by omega, ?_⟩ | refine ⟨fun _ _ => okt_nn (by omega), ?_⟩)
  try (first | (show _ ≤ _; omega) | (show _ < _; omega))
  refine (isTimber_y h0 ht).eq ?_
  try simp (maxSteps := 2000000) only [↓reduceIte, wp_eq, wpd_eq, kont_eq, STP1, STP2, STP3, STP4, STP5, konM_eq, AMK, CZ, Option.map, List.getElem?_cons_zero, List.getElem?_cons_succ, List.mem_cons, List.not_mem_nil, if_false, if_true, Nat.reduceAdd, Nat.reduceLT, Nat.reduceLeDiff, Nat.reduceEqDiff, true_and, and_true, List.length_nil, List.length_cons, or_true, true_or, or_false, false_or, Option.some.injEq, Sum.inl.injEq, Sum.inr.injEq, exists_eq_left', exists_eq_left, Int.reduceLE, Int.reduceLT, Int.reduceNeg, Int.reduceAdd, Int.reduceMul, Int.reduceSub, Int.reduceToNat, inR, Nat.zero_ne_one, false_and, Nat.succ_ne_zero, reduceCtorEq, false_implies, true_implies, not_false_eq_true, not_true_eq_false, Int.reduceEq, KRE, C_Model_told, FM]
  repeat (first | refine ⟨by omega, ?_⟩ | refine ⟨fun _ _ => okt_nn (by omega), ?_⟩)
  try (first | (show _ ≤ _; omega) | (show _ < _; omega))
  refine TT.mono (fun M1 X1 => ?_)
  have F1 := fin M1 X1
  have x68 := X1.1
  by_cases ci : i = -1
  · have c' := eq_true ci
    try simp (maxSteps := 2000000) only [↓reduceIte, wp_eq, wpd_eq, kont_eq, STP1, STP2, STP3, STP4, STP5, konM_eq, AMK, CZ, Option.map, List.getElem?_cons_zero, List.getElem?_cons_succ, List.mem_cons, List.not_mem_nil, if_false, if_true, Nat.reduceAdd, Nat.reduceLT, Nat.reduceLeDiff, Nat.reduceEqDiff, true_and, and_true, List.length_nil, List.length_cons, or_true, true_or, or_false, false_or, Option.some.injEq, Sum.inl.injEq, Sum.inr.injEq, exists_eq_left', exists_eq_left, Int.reduceLE, Int.reduceLT, Int.reduceNeg, Int.reduceAdd, Int.reduceMul, Int.reduceSub, Int.reduceToNat, inR, Nat.zero_ne_one, false_and, Nat.succ_ne_zero, reduceCtorEq, false_implies, true_implies, not_false_eq_true, not_true_eq_false, Int.reduceEq, KRE, C_Model_told, FM, c', x68]
    repeat (first | refine ⟨by omega, ?_⟩ | refine ⟨fun _ _ => okt_nn (by omega), ?_⟩)
    try (first | (show _ ≤ _; omega) | (show _ < _; omega))
    all_goals first | exact ⟨by unfold tdA; rw [if_pos ci], F1⟩ | exact F1 | skip
  · have c' := eq_false ci
    have i2 : 0 ≤ i ∧ i < W.length := by omega
    have hiR' := hiR
    simp only [inR] at hiR'
    have II := Model_isIn_ok (M := M1) (v := i) (a := 0) (b := (W.length : Int) - 1) hiR ⟨by omega, by omega⟩ ⟨by omega, by omega⟩
    rw [if_pos ⟨by omega, by omega⟩] at II
    have e185 : M1 185 i.toNat = W.getD i.toNat 0 := X1.2.1 _ (by omega)
    have b1 := eq_true (show 0 ≤ i by omega)
    have b2 := eq_true (show i < ((200 : Nat) : Int) by omega)
    try simp (maxSteps := 2000000) only [↓reduceIte, wp_eq, wpd_eq, kont_eq, STP1, STP2, STP3, STP4, STP5, konM_eq, AMK, CZ, Option.map, List.getElem?_cons_zero, List.getElem?_cons_succ, List.mem_cons, List.not_mem_nil, if_false, if_true, Nat.reduceAdd, Nat.reduceLT, Nat.reduceLeDiff, Nat.reduceEqDiff, true_and, and_true, List.length_nil, List.length_cons, or_true, true_or, or_false, false_or, Option.some.injEq, Sum.inl.injEq, Sum.inr.injEq, exists_eq_left', exists_eq_left, Int.reduceLE, Int.reduceLT, Int.reduceNeg, Int.reduceAdd, Int.reduceMul, Int.reduceSub, Int.reduceToNat, inR, Nat.zero_ne_one, false_and, Nat.succ_ne_zero, reduceCtorEq, false_implies, true_implies, not_false_eq_true, not_true_eq_false, Int.reduceEq, KRE, C_Model_told, FM, c', x68]
    repeat (first | refine ⟨by omega, ?_⟩ | refine ⟨fun _ _ => okt_nn (by omega), ?_⟩)
    try (first | (show _ ≤ _; omega) | (show _ < _; omega))
    refine II.eq ?_
    try simp (maxSteps := 2000000) only [↓reduceIte, wp_eq, wpd_eq, kont_eq, STP1, STP2, STP3, STP4, STP5, konM_eq, AMK, CZ, Option.map, List.getElem?_cons_zero, List.getElem?_cons_succ, List.mem_cons, List.not_mem_nil, if_false, if_true, Nat.reduceAdd, Nat.reduceLT, Nat.reduceLeDiff, Nat.reduceEqDiff, true_and, and_true, List.length_nil, List.length_cons, or_true, true_or, or_false, false_or, Option.some.injEq, Sum.inl.injEq, Sum.inr.injEq, exists_eq_left', exists_eq_left, Int.reduceLE, Int.reduceLT, Int.reduceNeg, Int.reduceAdd, Int.reduceMul, Int.reduceSub, Int.reduceToNat, inR, Nat.zero_ne_one, false_and, Nat.succ_ne_zero, reduceCtorEq, false_implies, true_implies, not_false_eq_true, not_true_eq_false, Int.reduceEq, KRE, C_Model_told, FM, b1, b2]
    repeat (first | refine ⟨by omega, ?_⟩ | refine ⟨fun _ _ => okt_nn (by omega), ?_⟩)
    try (first | (show _ ≤ _; omega) | (show _ < _; omega))
    all_goals first | exact ⟨by unfold tdA; rw [if_neg ci]; exact e185, F1⟩ | skip
set_option maxHeartbeats 600000 in
set_option maxRecDepth 20000 in
theorem Mtold_x1 {t i : Int} (h : mdl M n T Y lap bnd mrg) (htR : inR t) (ht : ¬ (0 ≤ t ∧ t < n)) : CallI m_Model_told [.inr 154, .inl t, .inl i] M (fun _ M' => rsM M 1 M') := by
  have h0 : mdl (mset M 154 1 0) n T Y lap bnd mrg := mdl_fr h scr_0 scr_mdl
  refine callP_of (by decide) (by decide) (Nat.le_of_ble_eq_true rfl) (wpm_of (cuts := []) (by decide) 60 _ _ _ _ ?_)
  rw [show lM m_Model_told = 3 from rfl]
  simp (maxSteps := 2000000) only [↓reduceIte, wp_eq, wpd_eq, kont_eq, STP1, STP2, STP3, STP4, STP5, konM_eq, AMK, CZ, Option.map, List.getElem?_cons_zero, List.getElem?_cons_succ, List.mem_cons, List.not_mem_nil, if_false, if_true, Nat.reduceAdd, Nat.reduceLT, Nat.reduceLeDiff, Nat.reduceEqDiff, true_and, and_true, List.length_nil, List.length_cons, or_true, true_or, or_false, false_or, Option.some.injEq, Sum.inl.injEq, Sum.inr.injEq, exists_eq_left', exists_eq_left, Int.reduceLE, Int.reduceLT, Int.reduceNeg, Int.reduceAdd, Int.reduceMul, Int.reduceSub, Int.reduceToNat, inR, Nat.zero_ne_one, false_and, Nat.succ_ne_zero, reduceCtorEq, false_implies, true_implies, not_false_eq_true, not_true_eq_false, Int.reduceEq, KRE, C_Model_told, FM]
  repeat (first | refine ⟨by omega, ?_⟩ | refine ⟨fun _ _ => okt_nn (by omega), ?_⟩)
  try (first | (show _ ≤ _; omega) | (show _ < _; omega))
  refine (isTimber_n h0 htR ht).eq ?_
  try simp (maxSteps := 2000000) only [↓reduceIte, wp_eq, wpd_eq, kont_eq, STP1, STP2, STP3, STP4, STP5, konM_eq, AMK, CZ, Option.map, List.getElem?_cons_zero, List.getElem?_cons_succ, List.mem_cons, List.not_mem_nil, if_false, if_true, Nat.reduceAdd, Nat.reduceLT, Nat.reduceLeDiff, Nat.reduceEqDiff, true_and, and_true, List.length_nil, List.length_cons, or_true, true_or, or_false, false_or, Option.some.injEq, Sum.inl.injEq, Sum.inr.injEq, exists_eq_left', exists_eq_left, Int.reduceLE, Int.reduceLT, Int.reduceNeg, Int.reduceAdd, Int.reduceMul, Int.reduceSub, Int.reduceToNat, inR, Nat.zero_ne_one, false_and, Nat.succ_ne_zero, reduceCtorEq, false_implies, true_implies, not_false_eq_true, not_true_eq_false, Int.reduceEq, KRE, C_Model_told, FM]
  repeat (first | refine ⟨by omega, ?_⟩ | refine ⟨fun _ _ => okt_nn (by omega), ?_⟩)
  try (first | (show _ ≤ _; omega) | (show _ < _; omega))
  refine (Model_fail_ok (k := 1)).eq ?_
  try simp (maxSteps := 2000000) only [↓reduceIte, wp_eq, wpd_eq, kont_eq, STP1, STP2, STP3, STP4, STP5, konM_eq, AMK, CZ, Option.map, List.getElem?_cons_zero, List.getElem?_cons_succ, List.mem_cons, List.not_mem_nil, if_false, if_true, Nat.reduceAdd, Nat.reduceLT, Nat.reduceLeDiff, Nat.reduceEqDiff, true_and, and_true, List.length_nil, List.length_cons, or_true, true_or, or_false, false_or, Option.some.injEq, Sum.inl.injEq, Sum.inr.injEq, exists_eq_left', exists_eq_left, Int.reduceLE, Int.reduceLT, Int.reduceNeg, Int.reduceAdd, Int.reduceMul, Int.reduceSub, Int.reduceToNat, inR, Nat.zero_ne_one, false_and, Nat.succ_ne_zero, reduceCtorEq, false_implies, true_implies, not_false_eq_true, not_true_eq_false, Int.reduceEq, KRE, C_Model_told, FM]
  refine ⟨by simp [mset], fun b j z => ?_⟩
  have z' : ¬ (b = 154 ∧ j = 1) := by unfold scrM at z; omega
  simp only [mset]
  rw [if_neg z', if_neg z']
set_option maxHeartbeats 600000 in
set_option maxRecDepth 20000 in
theorem Mtold_x2 {t : Nat} {i : Int} (h : mdl M n T Y lap bnd mrg) (ht : t < n) (hi : ¬ (i = -1 ∨ 0 ≤ i ∧ i < (txW (M 158 (30 * t + 1)) (M 158 (30 * t + 2)) (T t)).length)) (hiR : inR i) : CallI m_Model_told [.inr 154, .inl (t : Int), .inl i] M (fun _ M' => rsM M 1 M') := by
  have h0 : mdl (mset M 154 1 0) n T Y lap bnd mrg := mdl_fr h scr_0 scr_mdl
  have TT := tellText_ok h0 ht
  have e1 : mset M 154 1 0 158 (30 * t + 1) = M 158 (30 * t + 1) := by simp [mset]
  have e2 : mset M 154 1 0 158 (30 * t + 2) = M 158 (30 * t + 2) := by simp [mset]
  rw [e1, e2] at TT
  have hw := txW_len (le := M 158 (30 * t + 1)) (mo := M 158 (30 * t + 2)) (A := T t) (mdl_t h ht).2.2.2.1.1.2
  generalize txW (M 158 (30 * t + 1)) (M 158 (30 * t + 2)) (T t) = W at *
  refine callP_of (by decide) (by decide) (Nat.le_of_ble_eq_true rfl) (wpm_of (cuts := []) (by decide) 60 _ _ _ _ ?_)
  rw [show lM m_Model_told = 3 from rfl]
  simp (maxSteps := 2000000) only [↓reduceIte, wp_eq, wpd_eq, kont_eq, STP1, STP2, STP3, STP4, STP5, konM_eq, AMK, CZ, Option.map, List.getElem?_cons_zero, List.getElem?_cons_succ, List.mem_cons, List.not_mem_nil, if_false, if_true, Nat.reduceAdd, Nat.reduceLT, Nat.reduceLeDiff, Nat.reduceEqDiff, true_and, and_true, List.length_nil, List.length_cons, or_true, true_or, or_false, false_or, Option.some.injEq, Sum.inl.injEq, Sum.inr.injEq, exists_eq_left', exists_eq_left, Int.reduceLE, Int.reduceLT, Int.reduceNeg, Int.reduceAdd, Int.reduceMul, Int.reduceSub, Int.reduceToNat, inR, Nat.zero_ne_one, false_and, Nat.succ_ne_zero, reduceCtorEq, false_implies, true_implies, not_false_eq_true, not_true_eq_false, Int.reduceEq, KRE, C_Model_told, FM]
  repeat (first | refine ⟨by omega, ?_⟩ | refine ⟨fun _ _ => okt_nn (by omega), ?_⟩)
  try (first | (show _ ≤ _; omega) | (show _ < _; omega))
  refine (isTimber_y h0 ht).eq ?_
  try simp (maxSteps := 2000000) only [↓reduceIte, wp_eq, wpd_eq, kont_eq, STP1, STP2, STP3, STP4, STP5, konM_eq, AMK, CZ, Option.map, List.getElem?_cons_zero, List.getElem?_cons_succ, List.mem_cons, List.not_mem_nil, if_false, if_true, Nat.reduceAdd, Nat.reduceLT, Nat.reduceLeDiff, Nat.reduceEqDiff, true_and, and_true, List.length_nil, List.length_cons, or_true, true_or, or_false, false_or, Option.some.injEq, Sum.inl.injEq, Sum.inr.injEq, exists_eq_left', exists_eq_left, Int.reduceLE, Int.reduceLT, Int.reduceNeg, Int.reduceAdd, Int.reduceMul, Int.reduceSub, Int.reduceToNat, inR, Nat.zero_ne_one, false_and, Nat.succ_ne_zero, reduceCtorEq, false_implies, true_implies, not_false_eq_true, not_true_eq_false, Int.reduceEq, KRE, C_Model_told, FM]
  repeat (first | refine ⟨by omega, ?_⟩ | refine ⟨fun _ _ => okt_nn (by omega), ?_⟩)
  try (first | (show _ ≤ _; omega) | (show _ < _; omega))
  refine TT.mono (fun M1 X1 => ?_)
  have x68 := X1.1
  have c' := eq_false (show ¬ i = -1 by omega)
  have hiR' := hiR
  simp only [inR] at hiR'
  have II := Model_isIn_ok (M := M1) (v := i) (a := 0) (b := (W.length : Int) - 1) hiR ⟨by omega, by omega⟩ ⟨by omega, by omega⟩
  rw [if_neg (by omega)] at II
  try simp (maxSteps := 2000000) only [↓reduceIte, wp_eq, wpd_eq, kont_eq, STP1, STP2, STP3, STP4, STP5, konM_eq, AMK, CZ, Option.map, List.getElem?_cons_zero, List.getElem?_cons_succ, List.mem_cons, List.not_mem_nil, if_false, if_true, Nat.reduceAdd, Nat.reduceLT, Nat.reduceLeDiff, Nat.reduceEqDiff, true_and, and_true, List.length_nil, List.length_cons, or_true, true_or, or_false, false_or, Option.some.injEq, Sum.inl.injEq, Sum.inr.injEq, exists_eq_left', exists_eq_left, Int.reduceLE, Int.reduceLT, Int.reduceNeg, Int.reduceAdd, Int.reduceMul, Int.reduceSub, Int.reduceToNat, inR, Nat.zero_ne_one, false_and, Nat.succ_ne_zero, reduceCtorEq, false_implies, true_implies, not_false_eq_true, not_true_eq_false, Int.reduceEq, KRE, C_Model_told, FM, c', x68]
  repeat (first | refine ⟨by omega, ?_⟩ | refine ⟨fun _ _ => okt_nn (by omega), ?_⟩)
  try (first | (show _ ≤ _; omega) | (show _ < _; omega))
  refine II.eq ?_
  try simp (maxSteps := 2000000) only [↓reduceIte, wp_eq, wpd_eq, kont_eq, STP1, STP2, STP3, STP4, STP5, konM_eq, AMK, CZ, Option.map, List.getElem?_cons_zero, List.getElem?_cons_succ, List.mem_cons, List.not_mem_nil, if_false, if_true, Nat.reduceAdd, Nat.reduceLT, Nat.reduceLeDiff, Nat.reduceEqDiff, true_and, and_true, List.length_nil, List.length_cons, or_true, true_or, or_false, false_or, Option.some.injEq, Sum.inl.injEq, Sum.inr.injEq, exists_eq_left', exists_eq_left, Int.reduceLE, Int.reduceLT, Int.reduceNeg, Int.reduceAdd, Int.reduceMul, Int.reduceSub, Int.reduceToNat, inR, Nat.zero_ne_one, false_and, Nat.succ_ne_zero, reduceCtorEq, false_implies, true_implies, not_false_eq_true, not_true_eq_false, Int.reduceEq, KRE, C_Model_told, FM]
  repeat (first | refine ⟨by omega, ?_⟩ | refine ⟨fun _ _ => okt_nn (by omega), ?_⟩)
  try (first | (show _ ≤ _; omega) | (show _ < _; omega))
  refine (Model_fail_ok (k := 1)).eq ?_
  try simp (maxSteps := 2000000) only [↓reduceIte, wp_eq, wpd_eq, kont_eq, STP1, STP2, STP3, STP4, STP5, konM_eq, AMK, CZ, Option.map, List.getElem?_cons_zero, List.getElem?_cons_succ, List.mem_cons, List.not_mem_nil, if_false, if_true, Nat.reduceAdd, Nat.reduceLT, Nat.reduceLeDiff, Nat.reduceEqDiff, true_and, and_true, List.length_nil, List.length_cons, or_true, true_or, or_false, false_or, Option.some.injEq, Sum.inl.injEq, Sum.inr.injEq, exists_eq_left', exists_eq_left, Int.reduceLE, Int.reduceLT, Int.reduceNeg, Int.reduceAdd, Int.reduceMul, Int.reduceSub, Int.reduceToNat, inR, Nat.zero_ne_one, false_and, Nat.succ_ne_zero, reduceCtorEq, false_implies, true_implies, not_false_eq_true, not_true_eq_false, Int.reduceEq, KRE, C_Model_told, FM]
  refine ⟨by simp [mset], fun b j z => ?_⟩
  have z' : ¬ txP b j ∧ ¬ (b = 154 ∧ j = 1) := by
    unfold scrM at z
    unfold txP
    constructor <;> intro y <;> apply z <;> omega
  show (if b = 154 ∧ j = 1 then _ else M1 b j) = M b j
  rw [if_neg z'.2, X1.2.2 b j z'.1]
  show (if b = 154 ∧ j = 1 then _ else M b j) = M b j
  rw [if_neg z'.2]
end MT

/-! TOLD, 2: the class's: a world with the memory, out and the builder. -/
def LHX (D : va_G) (tA : Nat → ClassId) (n0 o bs : Nat) (adr : Nat → Nat) (M : Mm) (f : Nat → Int64) (x : BS) (H : Heap) : Prop :=
  (n0 ≤ H.size ∧ va_P D clA (wsA tA adr M) H ∧ va_at D clA (o, .inl (tA 5, (1, .inr (.inl f)))) H) ∧ (n0 ≤ xB x ∧ xB x ≠ o ∧ xB x ≠ bs ∧ ∀ a, a < NN → xB x ≠ adr a) ∧ okX x ∧ va_P D clA (BW tA bs x) H
/-- the builder's text -/
def isTx (x : BS) (w : List Int) : Prop := xN x = w.length ∧ ∀ j, j < w.length → xT x j = w.getD j 0
theorem isTx_app {x x' : BS} {w : List Int} {c : Int} (h : isTx x w) (e : xN x' = xN x + 1 ∧ (∀ j, j < xN x → xT x' j = xT x j) ∧ xT x' (xN x) = c) : isTx x' (w ++ [c]) := by
  obtain ⟨h1, h2⟩ := h
  obtain ⟨e1, e2, e3⟩ := e
  refine ⟨by rw [List.length_append, e1, h1]; rfl, fun j hj => ?_⟩
  have hj' : j < w.length + 1 := by simpa using hj
  rw [getD_app hj']
  by_cases c : j = w.length
  · rw [if_pos c, c, ← h1, e3]
  · rw [if_neg c, e2 j (by omega), h2 j (by omega)]
theorem isTx_num {x x' : BS} {w : List Int} {a : Int} (h : isTx x w) (e : (∀ j, j < xN x → xT x' j = xT x j) ∧ if a ≤ 9 then xN x' = xN x + 1 ∧ xT x' (xN x) = 48 + a else xN x' = xN x + 2 ∧ xT x' (xN x) = 48 + a / 10 ∧ xT x' (xN x + 1) = 48 + a % 10) : isTx x' (w ++ dgW a) := by
  obtain ⟨e2, e⟩ := e
  unfold dgW
  by_cases c : a ≤ 9
  · rw [if_pos c] at e ⊢
    exact isTx_app h ⟨e.1, e2, e.2⟩
  · rw [if_neg c] at e ⊢
    obtain ⟨e1, e3, e4⟩ := e
    obtain ⟨h1, h2⟩ := h
    have g : isTx (xB x', xC x', xN x + 1, xM x', xT x') (w ++ [48 + a / 10]) := isTx_app ⟨h1, h2⟩ ⟨rfl, e2, e3⟩
    have g2 := isTx_app (x' := x') (c := 48 + a % 10) g ⟨e1, fun j hj => rfl, e4⟩
    simpa using g2
theorem isTx_tb {x : BS} (e : xN x = 7 ∧ ∀ j, j < 7 → xT x j = tbW.getD j 0) : isTx x tbW := e
section P2
variable {D : va_G} {tA : Nat → ClassId} {n0 o bs : Nat} {adr adV : Nat → Nat} {M M' : Mm} {f : Nat → Int64} {x x' : BS} {H H1 : Heap}
theorem LHX.to (h : LHX D tA n0 o bs adr M f x H) : LH D tA n0 o bs adr M f H := ⟨h.1.1, h.1.2.1, h.1.2.2, xB x, xC x, xN x, xM x, xT x, h.2.1, h.2.2.1, h.2.2.2 0 _ rfl, h.2.2.2 1 _ rfl⟩
theorem LH.ex (h : LH D tA n0 o bs adr M f H) : ∃ x, LHX D tA n0 o bs adr M f x H := by
  obtain ⟨h1, h2, h3, bb, cap, cnt, ml, T, h4, h5, h6, h7⟩ := h
  refine ⟨(bb, cap, cnt, ml, T), ⟨h1, h2, h3⟩, h4, h5, fun k y hy => ?_⟩
  match k, hy with
  | 0, hy => cases hy; exact h6
  | 1, hy => cases hy; exact h7
theorem x_keep (hm : LM n0 o bs adr) (hh : LHX D tA n0 o bs adr M f x H) (hz : H.size ≤ H1.size) (hk : ∀ q : Nat, q < H.size → ¬ AA adr H.size q → H1[q]? = H[q]?) (hP : va_P D clA (wsA tA adr M') H1) : LHX D tA n0 o bs adr M' f x H1 := by
  obtain ⟨⟨h1, h2, h3⟩, ⟨b1, b2, b3, b4⟩, hc, h4⟩ := hh
  have hn : ∀ q : Nat, q < H.size → (∀ a, a < NN → adr a ≠ q) → ¬ AA adr H.size q := by
    rintro q hq hne (⟨a, ha, rfl⟩ | hge)
    · exact hne a ha rfl
    · omega
  have l3 : o < H.size := h3.lt
  refine ⟨⟨Nat.le_trans h1 hz, hP, h3.kept (hk o l3 (hn o l3 (fun a ha => (hm.2.1 a ha).2.1)))⟩, ⟨b1, b2, b3, b4⟩, hc, fun k y hy => ?_⟩
  have hl := (h4 k y hy).lt
  refine (h4 k y hy).kept (hk _ hl (hn _ hl (fun a ha => ?_)))
  match k, hy with
  | 0, hy => cases hy; exact (hm.2.1 a ha).2.2
  | 1, hy => cases hy; exact fun e => b4 a ha e.symm
/-- behind a call of the builder -/
theorem x_bkeep (hm : LM n0 o bs adr) (hh : LHX D tA n0 o bs adr M f x H) (hz : H.size ≤ H1.size) (hk : ∀ q : Nat, q < H.size → ¬ bA bs (xB x) H.size q → H1[q]? = H[q]?) (hx : okX x') (hP : va_P D clA (BW tA bs x') H1) (hb : bs ≠ xB x' ∧ bA bs (xB x) H.size (xB x')) : LHX D tA n0 o bs adr M f x' H1 := by
  obtain ⟨⟨h1, h2, h3⟩, ⟨b1, b2, b3, b4⟩, hc, h4⟩ := hh
  have l3 : o < H.size := h3.lt
  have hn : ∀ q : Nat, q < H.size → q ≠ bs → q ≠ xB x → ¬ bA bs (xB x) H.size q := by
    rintro q hq n1 n2 (h | h | h)
    · exact n1 h
    · exact n2 h
    · omega
  have wl : ∀ a, a < NN → adr a < H.size := fun a ha => (h2 a _ (wsA_at ha)).lt
  have hB : xB x' = xB x ∨ H.size ≤ xB x' := by
    rcases hb.2 with h | h | h
    · exact absurd h.symm hb.1
    · exact .inl h
    · exact .inr h
  refine ⟨⟨Nat.le_trans h1 hz, h2.kept (fun k q hq => ?_), h3.kept (hk o l3 (hn o l3 hm.1.2.2 (fun e => b2 e.symm)))⟩, ⟨?_, ?_, fun e => hb.1 e.symm, fun a ha => ?_⟩, hx, hP⟩
  · obtain ⟨k1, k2⟩ := ws_el hq
    rw [k2]
    exact hk _ (wl k k1) (hn _ (wl k k1) (hm.2.1 k k1).2.2 (fun e => b4 k k1 e.symm))
  · rcases hB with e | e
    · rw [e]; exact b1
    · omega
  · rcases hB with e | e
    · rw [e]; exact b2
    · omega
  · rcases hB with e | e
    · rw [e]; exact b4 a ha
    · have := wl a ha; omega
end P2
section P3
variable {p : Program} {l : Launch} {e : Env} {R : Room} {s : State} {m : MethodId} {args : Array Value} {below : List Frame} {meth : Method} {c : Code} {Q : State → Prop}
variable {D : va_G} {tA : Nat → ClassId} {n0 o bs : Nat} {adr adV : Nat → Nat} {M : Mm} {f : Nat → Int64} {x : BS} {H : Heap} {locs : List Loc} {cells slots pc : Nat} {ls : Array Slot} {rest st0 : List Value} {nL : Nat} {cc : ByteArray} {own : String}
def LWo (own : String) (idx q : Nat) : Prop := (Cond.methodLink own idx (yM q) ∈ gW ∧ Cond.instanceMethod (yM q) ∈ gW) ∧ (Cond.selects (yM q).cls (yM q) (yM q) ∈ gW ∧ Cond.initialized (yM q).cls ∈ gW) ∧ (parseMethodDescriptor (yM q).desc).map (fun d => d.parameters.length + 1) = some (nM q) ∧ q < mtN
theorem LHX.Wld {U : State} (hm : LM n0 o bs adr) (hs : LSt D tA n0 adr adV U H) (hh : LHX D tA n0 o bs adr M f x H) (hU : U.heap = H) : Wld D tA adr adV M H.size U := lw_Wld hm hs hh.to hU
/-- a field of a cell of the memory -/
theorem t_get {a ci k index : Nat} {fs : List (Option Nat)} {r : Option Nat} (X : BX p s m args c own nL cc) (hs : LSt D tA n0 adr adV s s.heap) (hh : LHX D tA n0 o bs adr M f x H) (hlay : lay a = .inr (.inl (ci, fs))) (hci : ci < 13) (hk : k < Nc ci) (hf : fs[k]? = some r) (hl : Cond.fieldLink own index (Tc ci k).1 (Tc ci k).2.1 (Tc ci k).2.2.1 ∈ gW) (hdg : decode cc pc = .ok (.getfield index, 3))
    (kk : W p l e R s m args below meth c H locs cells slots Q (F0 m (pc + 3) ls (celV adr M a k r :: rest))) : W p l e R s m args below meth c H locs cells slots Q (F0 m pc ls (.ref (adr a) :: rest)) := by
  obtain ⟨c1, c2⟩ := cls_el hci
  exact va_get (ref := (Tc ci k).1) X.1 X.2.1 X.2.2.2.2 c2 X.2.2.2.1 hs.1.1 hh.1.2.1 a (ws_obj hlay) c1 k hk (X.2.2.2.2 _ hl) (fun _ h => h) (by simp [celF, List.getElem?_mapIdx, hf]) hdg kk
/-- a call on a cell of the memory -/
theorem t_call {idx q b : Nat} {As : List AV} {Qc : Option AV → Mm → Prop} (X : BX p s m args c own nL cc) (hw : LWo own idx q) (hm : LM n0 o bs adr) (hs : LSt D tA n0 adr adV s s.heap) (hh : LHX D tA n0 o bs adr M f x H) (hS : LV n0 s H locs) (hls : ls.size = nL) (hb : kc (lay b) (oM q)) (hn : As.length + 1 = nM q) (hR : dM q + 1 ≤ R.frames ∧ 49 + 64 * dM q ≤ R.locals) (hc : cells ≤ R.cells ∧ slots ≤ R.slots)
    (hrest : (rest.map fun v => v.category).sum ≤ 8) (hst : st0 = (As.map (cvA adr)).reverse ++ .ref (adr b) :: rest) (hdg : decode cc pc = .ok (.invokevirtual idx, 3)) (hC : CallP q (.inr b :: As) M Qc)
    (hk : ∀ v M' H1 locs1, Qc v M' → LHX D tA n0 o bs adr M' f x H1 → LV n0 s H1 locs1 → W p l e R s m args below meth c H1 locs1 cells slots Q (F0 m (pc + 3) ls ((v.map (cvA adr)).toList ++ rest))) : W p l e R s m args below meth c H locs cells slots Q (F0 m pc ls st0) := by
  obtain ⟨hx, hb', hml, hown, hts⟩ := X
  have hq := hw.2.2.2
  have h30 := l_l30 hq
  have hsig : (yM q).cls ≠ "java/lang/invoke/MethodHandle" ∧ (yM q).cls ≠ "java/lang/invoke/VarHandle" ∧ (parseMethodDescriptor (yM q).desc).map (fun d => d.parameters.length) = some As.length := by
    obtain ⟨m1, m2⟩ := meth_el hq
    simp only [okM, Bool.and_eq_true, decide_eq_true_eq] at m2
    obtain ⟨⟨⟨⟨⟨⟨-, hpl⟩, hcls⟩, hn1⟩, hn2⟩, hl30⟩, -⟩ := m2
    have w4 := hw.2.2.1
    refine ⟨hn1, hn2, ?_⟩
    cases hp : parseMethodDescriptor (yM q).desc with
    | none => rw [hp] at w4; cases w4
    | some d =>
      rw [hp] at w4
      have : d.parameters.length + 1 = nM q := Option.some.inj w4
      simp only [Option.map_some]
      congr 1
      omega
  have hr := va_runV (p := p) (l := l) (e := e) (R := R) (s := s) (m := m) (args := args) (below := below) (meth := meth) (c := c) (H := H) (locs := locs) (cells := cells) (slots := slots) (b := adr b) (g := F0 m pc ls st0) (rest := rest) (own := own) (Ts := gW) (nL := nL) (As := As.map (cvA adr)) (C := (yM q).cls) (n := As.length) (bytes := cM q) (maxL := lM q) (ret := rM q) ⟨hx, hb', hml, hown, hts⟩ (hC l D tA adr adV H.size)
    ⟨callB_of As.length hts (wM_good hq) rfl rfl rfl (hts _ hw.2.1.2) (hts _ hw.1.1) hsig ⟨hR.1, by show 8 + (lM q + 11) + 64 * dM q ≤ R.locals; omega⟩, hts _ hw.1.2, hts _ hw.2.1.1⟩
    ⟨Wld.blind _, l_recv hs hh.to hq hb, fun U hU hW => ⟨by simp [cvA], by rw [← hU]; exact LHX.Wld hm (hU ▸ hs.now hS hW) (hU ▸ hh) rfl⟩⟩ rfl (by simp) hls hst (lv_room (pc := pc) (ls := ls) (rest := st0) hrest) hdg ⟨by omega, by omega⟩
  intro T hT XX
  obtain ⟨v, st₀, t, T', L2, h0, X', hL, e1, e2, ⟨⟨v', M', hq', hv, hP, hD⟩, hz, hkk⟩, st⟩ := hr T hT XX
  rw [h0] at hz hkk hD
  have hv' : v = v'.map (cvA adr) := by cases hv; rfl
  subst hv'
  have hz1 : H.size ≤ T'.heap.size := by rw [e1]; exact hz
  have hk1 : ∀ y : Nat, y < H.size → ¬ AA adr H.size y → T'.heap[y]? = H[y]? := fun y h1 h2 => by rw [e1]; exact hkk y h1 h2
  have K := hk v' M' T'.heap (locs ++ L2) hq' (x_keep hm hh hz1 hk1 (by rw [e1]; exact hP)) (vS_app hS hz1 hk1 (hm.sub hh.1.1) (fun y hy => hm.sub hh.1.1 _ (hL y hy)))
  obtain ⟨t2, a1, b1⟩ := K T' rfl X'
  exact ⟨t2, st t2 a1, b1⟩
/-- a call of the builder -/
theorem t_bcall {y : MethodName} {cc2 : ByteArray} {nL2 fr lo mc ms idx n : Nat} {ret : Option FieldType} {av : BS → (Nat → Nat) → List Value} {P : BS → Prop} {Rr : BS → Option Value → BS → Prop} {As : List Value} (X : BX p s m args c own nL cc) (hm : LM n0 o bs adr) (hs : LSt D tA n0 adr adV s s.heap) (hh : LHX D tA n0 o bs adr M f x H) (hS : LV n0 s H locs) (hC : BC y cc2 nL2 ret fr lo mc ms bs av P Rr) (hP : P x) (hw : BWd 0 own idx y cc2 nL2 ret RJ4 n) (hav : av x adr = .ref bs :: As) (hn : As.length = n) (hls : ls.size = nL) (hR : fr + 1 ≤ R.frames ∧ 39 + lo ≤ R.locals) (hf : cells + mc ≤ R.cells ∧ slots + ms ≤ R.slots) (hrest : (rest.map fun v => v.category).sum ≤ 8) (hst : st0 = As.reverse ++ .ref bs :: rest) (hdg : decode cc pc = .ok (.invokevirtual idx, 3))
    (kk : ∀ v x' H1 locs1, Rr x v x' → LHX D tA n0 o bs adr M f x' H1 → LV n0 s H1 locs1 → W p l e R s m args below meth c H1 locs1 (cells + mc) (slots + ms) Q (F0 m (pc + 3) ls (v.toList ++ rest))) : W p l e R s m args below meth c H locs cells slots Q (F0 m pc ls st0) := by
  obtain ⟨⟨⟨w1, w2, w3⟩, w4, w5⟩, w6, w7⟩ := hw
  have hts := X.2.2.2.2
  have hr := va_runV (p := p) (l := l) (e := e) (R := R) (s := s) (m := m) (args := args) (below := below) (meth := meth) (c := c) (H := H) (locs := locs) (cells := cells) (slots := slots) (b := bs) (g := F0 m pc ls st0) (rest := rest) (own := own) (Ts := gW) (nL := nL) (As := As) (C := RJ4) (n := n) (bytes := cc2) (maxL := nL2) (ret := ret) X (hC l D tA n0 adr adV H.size x hP) ⟨callB_of n hts (code_good w3) rfl rfl rfl (hts _ w2) (hts _ w1) w4 ⟨hR.1, by show 8 + (nL2 + 11) + lo ≤ R.locals; omega⟩, hts _ w6, hts _ w7⟩
    ⟨BPre.blind, va_recv hs.1.2 hh.2.2.2 c13.1 (q0 := 0) rfl, fun U hU hW => ⟨by rw [hav], ⟨by rw [hU], hh.1.1, hm.1.2.1, hh.2.1.1, fun e => hh.2.1.2.2.1 e.symm⟩, hh.2.2.1, by rw [hU]; exact hh.2.2.2, by
      have hs2 := hs.now hS hW
      rw [hU]
      exact ⟨hs2.1.2, hs2.2.1, hs2.2.2.2.2.2.1, hs2.2.2.2.2.2.2⟩⟩⟩ rfl hn hls hst (lv_room (pc := pc) (ls := ls) (rest := st0) hrest) hdg hf
  intro T hT XX
  obtain ⟨v, st₀, t, T', L2, h0, X', hL2, e1, e2, ⟨⟨_, x', hv, hR2, hx, hP2, hb⟩, hsz, hkk⟩, st⟩ := hr T hT XX
  rw [h0] at hsz hkk
  cases hv
  have hz1 : H.size ≤ T'.heap.size := by rw [e1]; exact hsz
  have hk1 : ∀ y : Nat, y < H.size → ¬ bA bs (xB x) H.size y → T'.heap[y]? = H[y]? := fun y h1 h2 => by rw [e1]; exact hkk y h1 h2
  have hsub : ∀ q, bA bs (xB x) H.size q → n0 ≤ q := by
    rintro q (rfl | rfl | hq)
    · exact hm.1.2.1
    · exact hh.2.1.1
    · exact Nat.le_trans hh.1.1 hq
  have K := kk v x' T'.heap (locs ++ L2) hR2 (x_bkeep hm hh hz1 hk1 hx (by rw [e1]; exact hP2) hb) (vS_app hS hz1 hk1 hsub (fun q hq => hsub _ (hL2 q hq)))
  obtain ⟨t2, a1, b1⟩ := K T' rfl X'
  exact ⟨t2, st t2 a1, b1⟩
end P3

