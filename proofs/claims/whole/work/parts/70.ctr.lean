/-! CONSTRUCTORS, 1: cells one behind another from b on; a row an instruction. -/
def wsL (b : Nat) (L : List va_E) : va_W := L.mapIdx (fun i e => (b + i, e))
theorem wsL_at {b : Nat} {L : List va_E} {i : Nat} : (wsL b L)[i]? = (L[i]?).map (fun e => (b + i, e)) := by
  simp only [wsL, List.getElem?_mapIdx]
theorem wsL_len {b : Nat} {L : List va_E} : (wsL b L).length = L.length := by simp [wsL]
theorem wsL_app {b : Nat} {L : List va_E} {e : va_E} : wsL b (L ++ [e]) = wsL b L ++ [(b + L.length, e)] := by
  apply List.ext_getElem?
  intro i
  rw [wsL_at]
  by_cases h : i < L.length
  · rw [List.getElem?_append_left h, List.getElem?_append_left (by rw [wsL_len]; exact h), wsL_at]
  · rw [List.getElem?_append_right (by omega), List.getElem?_append_right (by rw [wsL_len]; omega), wsL_len]
    by_cases h2 : i = L.length
    · subst h2
      simp
    · rw [List.getElem?_eq_none (by simp; omega), List.getElem?_eq_none (by simp; omega)]
      rfl
theorem wsL_set {b i : Nat} {L : List va_E} {e : va_E} : (wsL b L).set i (b + i, e) = wsL b (L.set i e) := by
  apply List.ext_getElem?
  intro j
  rw [wsL_at]
  by_cases h : i = j
  · subst h
    by_cases hl : i < L.length
    · rw [List.getElem?_set_self (by rw [wsL_len]; exact hl), List.getElem?_set_self hl]
      rfl
    · rw [List.getElem?_eq_none (by simp [wsL_len]; omega), List.getElem?_eq_none (by simp; omega)]
      rfl
  · rw [List.getElem?_set_ne h, List.getElem?_set_ne h, wsL_at]
theorem wsL_D {b : Nat} {L : List va_E} : va_D (fun q => b ≤ q) (wsL b L) := by
  refine ⟨fun i j p q h1 h2 h => ?_, fun k q h => ?_⟩
  · rw [wsL_at] at h1 h2
    obtain ⟨x, -, rfl⟩ := Option.map_eq_some_iff.mp h1
    obtain ⟨y, -, rfl⟩ := Option.map_eq_some_iff.mp h2
    have h' : b + i = b + j := h
    omega
  · rw [wsL_at] at h
    obtain ⟨x, -, rfl⟩ := Option.map_eq_some_iff.mp h
    show b ≤ b + k
    omega
def CH (D : va_G) (b : Nat) (L : List va_E) (H : Heap) : Prop := H.size = b + L.length ∧ va_P D clA (wsL b L) H
/-- the fields of a new object -/
def dfl (ci : Nat) : List Value := (List.range (Nc ci)).map (fun j => match parseFieldDescriptor (Tc ci j).2.2.1 with
  | some t => defaultValue t
  | none => .null)
def Wc (D : va_G) (tA : Nat → ClassId) (U : State) : Prop := (∀ o x y h, Cond.methodLinkNest o x y h ∈ lw_tbl → va_Nw (.methodLinkNest o x y h) U) ∧ va_AO "RingDater$Timber" U ∧ va_AO "java/lang/String" U ∧ va_K D clA [(tA 4, .byte), (tA 5, .long)] U
theorem Wc.warm {D : va_G} {tA : Nat → ClassId} {s U : State} (hW : s.WarmedH U.vm) (h : Wc D tA s) : Wc D tA U := ⟨fun o x y z hm => (h.1 o x y z hm).warmM hW, va_AO.moved hW.alike h.2.1, va_AO.moved hW.alike h.2.2.1, va_K.moved hW.alike h.2.2.2⟩
theorem Wc.same {D : va_G} {tA : Nat → ClassId} {u U : State} (hv : U.vm = u.vm) (h : Wc D tA u) : Wc D tA U := ⟨fun o x y z hm => (h.1 o x y z hm).same rfl hv.symm, by
  have e : u.vm.Alike U.vm := by rw [hv]; exact Vm.Alike.refl _
  exact ⟨va_AO.moved e h.2.1, va_AO.moved e h.2.2.1, va_K.moved e h.2.2.2⟩⟩
/-- a constructor's contract: at b its new object, the last cell; behind it the cells of Lf -/
def LPre (D : va_G) (tA : Nat → ClassId) (b : Nat) (L : List va_E) (U : State) : Prop := CH D b L U.heap ∧ va_K D clA (tysA tA) U ∧ Wc D tA U
abbrev CPre (D : va_G) (tA : Nat → ClassId) (b ci : Nat) (U : State) : Prop := LPre D tA b [.inr (ci, dfl ci)] U
def CPost (D : va_G) (b : Nat) (L : List va_E) : Array Value → State → Outcome → State → Prop := fun _ st oc t => (oc = .returned none ∧ CH D b L t.heap) ∧ va_F (fun q => b ≤ q) st t
def CtorC (y : MethodName) (cc : ByteArray) (nL fr lo mc ms : Nat) (av : List Value) (ci : Nat) (Lf : (Nat → ClassId) → Nat → List va_E) : Prop := ∀ (l : Launch) (D : va_G) (tA : Nat → ClassId) (b : Nat),
  Met l y (Cond.code y cc nL none :: gW) { frames := fr, cells := mc, slots := ms, locals := lo } (va_Pc (.ref b :: av) (CPre D tA b ci)) (CPost D b (Lf tA b)) mc ms (fun q => b ≤ q)
theorem va_at_kept {D : va_G} {cl : List vw_C} {q : Nat × va_E} {H H1 : Heap} (h : va_at D cl q H) (e : H1[q.1]? = H[q.1]?) : va_at D cl q H1 := by
  have h1 : va_P D cl [q] H := fun k y hy => by
    have hz : k < 1 := (List.getElem?_eq_some_iff.mp hy).1
    rw [show k = 0 by omega] at hy
    cases hy
    exact h
  exact (h1.kept (fun k y hy => by
    have hz : k < 1 := (List.getElem?_eq_some_iff.mp hy).1
    rw [show k = 0 by omega] at hy
    cases hy
    exact e)) 0 q rfl
section CTR
variable {p : Program} {l : Launch} {e : Env} {R : Room} {s : State} {m : MethodId} {args : Array Value} {below : List Frame} {meth : Method} {c : Code} {Q : State → Prop}
variable {D : va_G} {tA : Nat → ClassId} {b : Nat} {own : String} {nL : Nat} {cc : ByteArray} {L : List va_E} {H : Heap} {locs : List Loc} {cells slots pc : Nat} {ls : Array Slot} {rest : List Value}
def CXt (p : Program) (s : State) (m : MethodId) (args : Array Value) (meth : Method) (c : Code) (D : va_G) (tA : Nat → ClassId) (own : String) (nL : Nat) (cc : ByteArray) : Prop := p.tables.exec = Jvm.exec ∧ c.code = cc ∧ c.maxLocals = nL ∧ s.vm.findClass own = some m.cls ∧ (∀ w ∈ gW, w.before args s = true) ∧ va_K D clA (tysA tA) s ∧ Wc D tA s ∧ meth.sig.returnType = none ∧ meth.locks = false
def CG (D : va_G) (b : Nat) (s : State) (L : List va_E) (H : Heap) (locs : List Loc) : Prop := CH D b L H ∧ va_S (fun q => b ≤ q) s.heap H locs
theorem CH.push {H1 : Heap} {x : va_E} (g : CH D b L H) (z : H1.size = H.size + 1) (o : ∀ q, q < H.size → H1[q]? = H[q]?) (h : va_at D clA (H.size, x) H1) : CH D b (L ++ [x]) H1 := by
  refine ⟨by rw [z, g.1]; simp; omega, ?_⟩
  rw [wsL_app, ← g.1]
  refine (g.2.kept (fun k y hy => o y.1 ((g.2 k y hy).lt))).app (fun k y hy => ?_)
  have hz : k < 1 := (List.getElem?_eq_some_iff.mp hy).1
  rw [show k = 0 by omega] at hy
  cases hy
  exact h
theorem vS_push {H1 : Heap} (h : va_S (fun q => b ≤ q) s.heap H locs) (z : H1.size = H.size + 1) (o : ∀ q, q < H.size → H1[q]? = H[q]?) : va_S (fun q => b ≤ q) s.heap H1 locs :=
  ⟨Nat.le_trans h.1 (by omega), fun x h1 h2 => (o x (Nat.lt_of_lt_of_le h1 h.1)).trans (h.2.1 x h1 h2), h.2.2⟩
theorem c_newa {aty : ArrayType} {t n : Nat} (X : CXt p s m args meth c D tA own nL cc) (hat : aty = .int ∧ t = 0 ∨ aty = .boolean ∧ t = 1) (hn : n ≤ 10000) (g : CG D b s L H locs) (hc : cells + 1 ≤ R.cells) (hs : slots + n ≤ R.slots) (hdg : decode cc pc = .ok (.newarray aty, 2))
    (hwi : Cond.arrayClass .int ∈ gW) (hwb : Cond.arrayClass .boolean ∈ gW)
    (kk : ∀ H1, CG D b s (L ++ [.inl (tA t, (n, .inl (fun _ => 0)))]) H1 locs → W p l e R s m args below meth c H1 locs (cells + 1) (slots + n) Q (F0 m (pc + 2) ls (.ref (b + L.length) :: rest))) : W p l e R s m args below meth c H locs cells slots Q (F0 m pc ls (.int (iN (n : Int)) :: rest)) := by
  obtain ⟨hx, hb, hml, hown, hw, hK, hwc, hrt, hlk⟩ := X
  have n0 : ¬ iN (n : Int) < 0 := fun q => by
    have := (iN_lt ⟨by omega, by omega⟩ inR_0).mp q
    omega
  have nC : (iN (n : Int)).toNatClampNeg = n := iN_clamp (by omega) (by omega)
  rcases hat with ⟨rfl, rfl⟩ | ⟨rfl, rfl⟩
  · refine va_newaK (atype := .int) hx hb (hw _ hwi) (g := F0 m pc ls (.int (iN (n : Int)) :: rest)) rfl hdg rfl n0 nC (by show n * 4 ≤ _; omega) hc hs rfl (fun H1 cA e1 z1 o1 _ hN => ?_)
    have hA : cA = tA 0 := by
      have h2 : s.vm.findClass ("[" ++ FieldType.int.toString) = some (tA 0) := (hK.2 0 _ rfl).2
      exact Option.some.inj (hN.symm.trans h2)
    subst hA
    have K := kk H1 ⟨g.1.push z1 o1 e1, vS_push g.2 z1 o1⟩
    rw [← g.1.1] at K
    exact K
  · refine va_newaK (atype := .boolean) hx hb (hw _ hwb) (g := F0 m pc ls (.int (iN (n : Int)) :: rest)) rfl hdg rfl n0 nC (by show n * 1 ≤ _; omega) hc hs rfl (fun H1 cA e1 z1 o1 _ hN => ?_)
    have hA : cA = tA 1 := by
      have h2 : s.vm.findClass ("[" ++ FieldType.boolean.toString) = some (tA 1) := (hK.2 1 _ rfl).2
      exact Option.some.inj (hN.symm.trans h2)
    subst hA
    have K := kk H1 ⟨g.1.push z1 o1 e1, vS_push g.2 z1 o1⟩
    rw [← g.1.1] at K
    exact K
theorem c_new {ci index : Nat} (X : CXt p s m args meth c D tA own nL cc) (hci : ci < 13) (g : CG D b s L H locs) (hcl : Cond.classLink own index (Rn ci) ∈ gW) (hins : Cond.instantiable (Rn ci) (Nc ci) ∈ gW) (hini : Cond.initialized (Rn ci) ∈ gW) (hc : cells + 1 ≤ R.cells) (hs : slots + Nc ci ≤ R.slots) (hdg : decode cc pc = .ok (.new index, 3))
    (kk : ∀ H1, CG D b s (L ++ [.inr (ci, dfl ci)]) H1 locs → W p l e R s m args below meth c H1 locs (cells + 1) (slots + Nc ci) Q (F0 m (pc + 3) ls (.ref (b + L.length) :: rest))) : W p l e R s m args below meth c H locs cells slots Q (F0 m pc ls rest) := by
  obtain ⟨hx, hb, hml, hown, hw, hK, hwc, hrt, hlk⟩ := X
  obtain ⟨c1, c2⟩ := cls_el hci
  obtain ⟨tyf, t1, t2⟩ := tyc_el hci
  have hKn := hK.1 ci _ c1
  refine W.newcK hx hb hown (hw _ hcl) (hw _ hins) (hw _ hini) (g := F0 m pc ls rest) rfl hdg hc hs hKn.2.1 rfl fun H1 kC hkC e1 z1 o1 => ?_
  have hat : va_at D clA (H.size, .inr (ci, dfl ci)) H1 := by
    refine ⟨_, c1, (u_born tyf hw c2 hKn hkC e1 t1).to (fun j hj => ?_)⟩
    have hj' : j < Nc ci := hj
    show _ = vp_V (dfl ci) j
    simp only [vp_V, dfl, List.getD_eq_getElem?_getD, List.getElem?_map, List.getElem?_range hj', Option.map_some, Option.getD_some, t1 j hj']
  have K := kk H1 ⟨g.1.push z1 o1 hat, vS_push g.2 z1 o1⟩
  rw [← g.1.1] at K
  exact K
/-- a field of the object that is made -/
theorem c_put {ci index k : Nat} {fs : List Value} {L0 : List va_E} {ty : FieldType} {v : Value} (X : CXt p s m args meth c D tA (Rn ci) nL cc) (hci : ci < 13) (g : CG D b s (.inr (ci, fs) :: L0) H locs) (hk : k < Nc ci) (hlen : k < fs.length) (hl : Cond.fieldLink (Rn ci) index (Tc ci k).1 (Tc ci k).2.1 (Tc ci k).2.2.1 ∈ gW) (hin0 : (Tc ci k).2.2.2 = true → meth.name = "<init>") (hdecl : (Tc ci k).1 = Rn ci) (hd : parseFieldDescriptor (Tc ci k).2.2.1 = some ty) (hn : narrow ty v = v) (hf : fits ty v = true) (hdg : decode cc pc = .ok (.putfield index, 3))
    (kk : ∀ H1 locs1, CG D b s (.inr (ci, fs.set k v) :: L0) H1 locs1 → W p l e R s m args below meth c H1 locs1 cells slots Q (F0 m (pc + 3) ls rest)) : W p l e R s m args below meth c H locs cells slots Q (F0 m pc ls (v :: .ref b :: rest)) := by
  obtain ⟨hx, hb, hml, hown, hw, hK, hwc, hrt, hlk⟩ := X
  obtain ⟨c1, c2⟩ := cls_el hci
  obtain ⟨tyf, t1, t2⟩ := tyc_el hci
  have he : (wsL b (.inr (ci, fs) :: L0))[0]? = some (b, .inr (ci, fs)) := by rw [wsL_at]; rfl
  have hset : (wsL b (.inr (ci, fs) :: L0)).set 0 (b, .inr (ci, fs.set k v)) = wsL b (.inr (ci, fs.set k v) :: L0) := wsL_set (i := 0)
  have hap := va_apart (own := Rn ci) hw c2 tyf t1 t2 hK c1
  obtain ⟨r, h1, cell, q1, q2, q3, q4⟩ := g.1.2 0 _ he
  have hr : r = (Rn ci, Tc ci, Nc ci) := Option.some.inj (h1.symm.trans c1)
  subst hr
  obtain ⟨hS, hfc, kC, hkC, hkind⟩ := hK.1 ci _ c1
  obtain ⟨cf, kf, fi, f, hi, hsl⟩ := hS k hk
  have hlay := hw _ (c2 _ (u_in_lay hk))
  have hst := (u_facts hfc hkC (u_lays hw c2 hk) hi).1
  have fin : ∀ (H1 : Heap) (locs1 : List Loc), locs1 = locs ++ [⟨b, f.slot⟩] → H1[b]? = some (cell.setSlot f.slot v) → H1.size = H.size → (∀ q, q ≠ b → H1[q]? = H[q]?) → CG D b s (.inr (ci, fs.set k v) :: L0) H1 locs1 := by
    rintro H1 _ rfl e1 e2 e3
    rw [hsl] at e1
    have hat : va_at D clA (b, .inr (ci, fs.set k v)) H1 := ⟨_, c1, t_OB.to (V := updV (vp_V fs) k v) ⟨_, e1, q2, q3, t_set q4 hap hk v⟩ (fun j _ => vp_updV_set hlen v j)⟩
    have hP := g.1.2.set wsL_D he hat e3
    rw [hset] at hP
    exact ⟨⟨e2.trans g.1.1, hP⟩, g.2.put e2 e3 (by show b ≤ b; omega)⟩
  cases hfin : (Tc ci k).2.2.2 with
  | true =>
    have hin := hin0 hfin
    unfold u_lay at hlay
    rw [if_pos hfin] at hlay
    have hcf : m.cls = cf := by
      obtain ⟨_, _, c', _, _, _, -, -, hf', -, -, -, hown2, -⟩ := Cond.laysFinal_spec hlay
      have e1 : c' = cf := by have := hi.symm.trans hf'; simp at this; exact this.1.symm
      rw [hdecl] at hown2
      rw [← e1]; exact Option.some.inj (hown.symm.trans hown2)
    have h6 := u_fits hfc hkC hkind (Or.inr hlay) hi hd hn hf
    exact W.putFinK hx hb hown (hw _ hl) hi hst hcf hin (by rw [q2]; exact h6) q1 q3 (by rw [hsl]; exact k2_hasslot (q4 k hk)) rfl rfl hdg fun H' e1 e2 e3 => kk H' _ (fin H' _ rfl e1 e2 e3)
  | false =>
    unfold u_lay at hlay
    rw [if_neg (by rw [hfin]; decide)] at hlay
    have h6 := u_store hfc hkC hkind hlay hi hd hn hf
    exact W.putK hx hb (f := f) ⟨hown, hw _ hl, ⟨_, _, _, hi⟩, hst⟩ (by rw [q2]; exact h6) q1 q3 (by rw [hsl]; exact k2_hasslot (q4 k hk)) rfl rfl hdg fun H' e1 e2 e3 => kk H' _ (fin H' _ rfl e1 e2 e3)
theorem c_get {ci index k : Nat} {fs : List Value} {L0 : List va_E} {v : Value} (X : CXt p s m args meth c D tA (Rn ci) nL cc) (hci : ci < 13) (g : CG D b s (.inr (ci, fs) :: L0) H locs) (hk : k < Nc ci) (hl : Cond.fieldLink (Rn ci) index (Tc ci k).1 (Tc ci k).2.1 (Tc ci k).2.2.1 ∈ gW) (hv : fs[k]? = some v) (hdg : decode cc pc = .ok (.getfield index, 3))
    (kk : W p l e R s m args below meth c H locs cells slots Q (F0 m (pc + 3) ls (v :: rest))) : W p l e R s m args below meth c H locs cells slots Q (F0 m pc ls (.ref b :: rest)) := by
  obtain ⟨hx, hb, hml, hown, hw, hK, hwc, hrt, hlk⟩ := X
  obtain ⟨c1, c2⟩ := cls_el hci
  exact va_get (ref := (Tc ci k).1) hx hb hw c2 hown hK g.1.2 0 (by rw [wsL_at]; rfl) c1 k hk (hw _ hl) (fun _ h => h) hv hdg kk
theorem c_obj {idx : Nat} (X : CXt p s m args meth c D tA own nL cc) (h1 : Cond.methodLink own idx Lib.objectInit ∈ gW) (h2 : Cond.instanceMethod Lib.objectInit ∈ gW) (h3 : Cond.code Lib.objectInit ⟨#[0xb1]⟩ 1 none ∈ gW) (hls : ls.size = nL) (hR : 1 ≤ R.frames ∧ 40 ≤ R.locals) (hdg : decode cc pc = .ok (.invokespecial idx, 3))
    (kk : W p l e R s m args below meth c H locs cells slots Q (F0 m (pc + 3) ls [])) : W p l e R s m args below meth c H locs cells slots Q (F0 m pc ls [.ref b]) := by
  obtain ⟨hx, hb, hml, hown, hw, hK, hwc, hrt, hlk⟩ := X
  refine W.objInit hx hb hown (hw _ h1) (hw _ h2) (hw _ h3) (g := F0 m pc ls [.ref b]) rfl (by show ls.size = _; rw [hml]; exact hls) rfl hdg hR.1 ?_ kk
  have h0 : 2 * (F0 m pc ls [.ref b]).monitorRoom + (([] : List Value).map fun v => v.category).sum ≤ 8 := lv_room (pc := pc) (ls := ls) (rest := [.ref b]) (by simp)
  omega
theorem LPre.blind (vs : List Value) : FrameBlind (va_Pc vs (LPre D tA b L)) := by
  intro a U g mk ⟨h, h1, h2, h3⟩
  exact ⟨h, h1, va_K.moved (u := U) (U := U.calling g mk a) (Vm.Alike.refl U.vm) h2, Wc.same (u := U) (U := U.calling g mk a) rfl h3⟩
/-- behind a constructor's call -/
theorem c_after {q : Nat} {Lc : List va_E} {mc ms : Nat} {a : Array Value} {st0 : List Value} (g : CG D b s (L ++ [.inr (q, dfl q)]) H locs) (hr : va_Run p l e R s m args below meth c H locs cells slots mc ms (F0 m pc ls st0) rest (CPost D (b + L.length) Lc a) (fun x => b + L.length ≤ x))
    (kk : ∀ H1 locs1, CG D b s (L ++ Lc) H1 locs1 → W p l e R s m args below meth c H1 locs1 (cells + mc) (slots + ms) Q (F0 m (pc + 3) ls rest)) : W p l e R s m args below meth c H locs cells slots Q (F0 m pc ls st0) := by
  intro T hT X
  obtain ⟨v, st₀, t, T', L1, h0, X', hL, e1, e2, ⟨⟨hv, hz, hP⟩, hsz, hkk⟩, st⟩ := hr T hT X
  rw [h0] at hsz hkk
  have hv' : v = none := by cases hv; rfl
  subst hv'
  have g1 : CG D b s (L ++ Lc) T'.heap (locs ++ L1) := by
    rw [e1]
    refine ⟨⟨by rw [hz]; simp; omega, fun k y hy => ?_⟩, Nat.le_trans g.2.1 hsz, fun x h1 h2 => ?_, fun x hx => ?_⟩
    · rw [wsL_at] at hy
      obtain ⟨x, hx, rfl⟩ := Option.map_eq_some_iff.mp hy
      by_cases hk : k < L.length
      · rw [List.getElem?_append_left hk] at hx
        have h3 := g.1.2 k (b + k, x) (by rw [wsL_at, List.getElem?_append_left hk, hx]; rfl)
        exact va_at_kept h3 (hkk (b + k) h3.lt (by show ¬ b + L.length ≤ b + k; omega))
      · rw [List.getElem?_append_right (by omega)] at hx
        have h3 := hP (k - L.length) (b + L.length + (k - L.length), x) (by rw [wsL_at, hx]; rfl)
        rw [show b + k = b + L.length + (k - L.length) by omega]
        exact h3
    · have hb2 : x < b := Nat.not_le.mp h2
      rw [hkk x (Nat.lt_of_lt_of_le h1 g.2.1) (by show ¬ b + L.length ≤ x; omega)]
      exact g.2.2.1 x h1 h2
    · rcases List.mem_append.mp hx with h | h
      · exact g.2.2.2 x h
      · have h5 : b + L.length ≤ x.base := hL x h
        show b ≤ x.base
        omega
  obtain ⟨t2, a1, b1⟩ := kk T'.heap (locs ++ L1) g1 T' rfl X'
  exact ⟨t2, st t2 a1, b1⟩
theorem c_call {ci index nL2 fr lo mc ms : Nat} {y : MethodName} {c2 : ByteArray} {av st0 : List Value} {Lf : (Nat → ClassId) → Nat → List va_E} (hC : CtorC y c2 nL2 fr lo mc ms av ci Lf) (X : CXt p s m args meth c D tA own nL cc) (g : CG D b s (L ++ [.inr (ci, dfl ci)]) H locs) (hlink : Cond.methodLink own index y ∈ gW) (hini : Cond.initialized y.cls ∈ gW) (hinst : Cond.instanceMethod y ∈ gW) (hcode : Cond.code y c2 nL2 none ∈ gW) (hy : y.name = "<init>")
    (hd : y.cls ≠ "java/lang/invoke/MethodHandle" ∧ y.cls ≠ "java/lang/invoke/VarHandle" ∧ (parseMethodDescriptor y.desc).map (fun d => d.parameters.length) = some av.length) (hR : fr + 1 ≤ R.frames ∧ 8 + (nL2 + 11) + lo ≤ R.locals) (hf : cells + mc ≤ R.cells ∧ slots + ms ≤ R.slots) (hls : ls.size = nL) (hrest : (rest.map fun v => v.category).sum ≤ 8) (hst : st0 = av.reverse ++ .ref (b + L.length) :: rest) (hdg : decode cc pc = .ok (.invokespecial index, 3))
    (kk : ∀ H1 locs1, CG D b s (L ++ Lf tA (b + L.length)) H1 locs1 → W p l e R s m args below meth c H1 locs1 (cells + mc) (slots + ms) Q (F0 m (pc + 3) ls rest)) : W p l e R s m args below meth c H locs cells slots Q (F0 m pc ls st0) := by
  obtain ⟨hx, hb, hml, hown, hw, hK, hwc, hrt, hlk⟩ := X
  have hgood : GoodIn gW (Cond.code y c2 nL2 none :: gW) := by
    intro w hw
    rcases List.mem_cons.mp hw with rfl | hw
    · exact ⟨hcode, good_of_word (List.mem_filter.mp hcode).2⟩
    · exact ⟨hw, good_of_word (List.mem_filter.mp hw).2⟩
  refine c_after g (va_runI (own := own) (Ts := gW) (nL := nL) (As := av) (n := av.length) ⟨hx, hb, hml, hown, hw⟩ (hC l D tA (b + L.length)) ⟨callB_of av.length hw hgood rfl rfl rfl (hw _ hini) (hw _ hlink) hd hR, hy, hw _ hinst⟩ ⟨LPre.blind _, fun U hU hW => ⟨rfl, ⟨?_, ?_⟩, va_K.moved hW.alike hK, hwc.warm hW⟩⟩ rfl rfl hls hst (lv_room (pc := pc) (ls := ls) (rest := st0) hrest) hdg hf) kk
  · rw [hU, g.1.1, List.length_append]
    show b + (L.length + 1) = b + L.length + 1
    omega
  · rw [hU]
    intro k z hz
    rw [wsL_at] at hz
    obtain ⟨x, hx, rfl⟩ := Option.map_eq_some_iff.mp hz
    have h0 : k < 1 := (List.getElem?_eq_some_iff.mp hx).1
    rw [show k = 0 by omega] at hx ⊢
    cases hx
    exact g.1.2 L.length _ (by rw [wsL_at, List.getElem?_append_right (Nat.le_refl _), Nat.sub_self]; rfl)
/-- .. of a nest mate -/
theorem c_callN {ci index nL2 fr lo mc ms : Nat} {y : MethodName} {host : String} {c2 : ByteArray} {av st0 : List Value} {Lf : (Nat → ClassId) → Nat → List va_E} (hC : CtorC y c2 nL2 fr lo mc ms av ci Lf) (X : CXt p s m args meth c D tA own nL cc) (g : CG D b s (L ++ [.inr (ci, dfl ci)]) H locs) (hlink : Cond.methodLinkNest own index y host ∈ lw_tbl) (hini : Cond.initialized y.cls ∈ gW) (hinst : Cond.instanceMethod y ∈ gW) (hcode : Cond.code y c2 nL2 none ∈ gW) (hy : y.name = "<init>")
    (hd : y.cls ≠ "java/lang/invoke/MethodHandle" ∧ y.cls ≠ "java/lang/invoke/VarHandle" ∧ (parseMethodDescriptor y.desc).map (fun d => d.parameters.length) = some av.length) (hR : fr + 1 ≤ R.frames ∧ 8 + (nL2 + 11) + lo ≤ R.locals) (hf : cells + mc ≤ R.cells ∧ slots + ms ≤ R.slots) (hls : ls.size = nL) (hrest : (rest.map fun v => v.category).sum ≤ 8) (hst : st0 = av.reverse ++ .ref (b + L.length) :: rest) (hdg : decode cc pc = .ok (.invokespecial index, 3))
    (kk : ∀ H1 locs1, CG D b s (L ++ Lf tA (b + L.length)) H1 locs1 → W p l e R s m args below meth c H1 locs1 (cells + mc) (slots + ms) Q (F0 m (pc + 3) ls rest)) : W p l e R s m args below meth c H locs cells slots Q (F0 m pc ls st0) := by
  obtain ⟨hx, hb, hml, hown, hw, hK, hwc, hrt, hlk⟩ := X
  have hgood : GoodIn gW (Cond.code y c2 nL2 none :: gW) := by
    intro w hw
    rcases List.mem_cons.mp hw with rfl | hw
    · exact ⟨hcode, good_of_word (List.mem_filter.mp hcode).2⟩
    · exact ⟨hw, good_of_word (List.mem_filter.mp hw).2⟩
  refine c_after g (va_runIN (own := own) (host := host) (Ts := gW) (nL := nL) (As := av) (n := av.length) ⟨hx, hb, hml, hown, hw⟩ (hC l D tA (b + L.length)) ⟨va_cnB av.length hw hgood rfl rfl rfl (hwc.1 _ _ _ _ hlink) (hw _ hini) hd hR, hy, hw _ hinst⟩ ⟨LPre.blind _, fun U hU hW => ⟨rfl, ⟨?_, ?_⟩, va_K.moved hW.alike hK, hwc.warm hW⟩⟩ rfl rfl hls hst (lv_room (pc := pc) (ls := ls) (rest := st0) hrest) hdg hf) kk
  · rw [hU, g.1.1, List.length_append]
    show b + (L.length + 1) = b + L.length + 1
    omega
  · rw [hU]
    intro k z hz
    rw [wsL_at] at hz
    obtain ⟨x, hx, rfl⟩ := Option.map_eq_some_iff.mp hz
    have h0 : k < 1 := (List.getElem?_eq_some_iff.mp hx).1
    rw [show k = 0 by omega] at hx ⊢
    cases hx
    exact g.1.2 L.length _ (by rw [wsL_at, List.getElem?_append_right (Nat.le_refl _), Nat.sub_self]; rfl)
theorem c_anew {C : String} {t n index : Nat} (X : CXt p s m args meth c D tA own nL cc) (hC : (C = "RingDater$Timber" ∧ t = 2) ∨ (C = "java/lang/String" ∧ t = 3)) (hn : n ≤ 10000) (g : CG D b s L H locs) (hcl : Cond.classLink own index C ∈ gW) (hc : cells + 1 ≤ R.cells) (hs : slots + n ≤ R.slots) (hdg : decode cc pc = .ok (.anewarray index, 3))
    (kk : ∀ H1, CG D b s (L ++ [.inl (tA t, (n, .inr (.inr (.inr (.inr (fun _ => none))))))]) H1 locs → W p l e R s m args below meth c H1 locs (cells + 1) (slots + n) Q (F0 m (pc + 3) ls (.ref (b + L.length) :: rest))) : W p l e R s m args below meth c H locs cells slots Q (F0 m pc ls (.int (iN (n : Int)) :: rest)) := by
  obtain ⟨hx, hb, hml, hown, hw, hK, hwc, hrt, hlk⟩ := X
  have n0 : ¬ iN (n : Int) < 0 := fun q => by
    have := (iN_lt ⟨by omega, by omega⟩ inR_0).mp q
    omega
  have nC : (iN (n : Int)).toNatClampNeg = n := iN_clamp (by omega) (by omega)
  have hov : (Cond.arrayOver (.object C)).before args s = true := by
    rcases hC with ⟨rfl, -⟩ | ⟨rfl, -⟩
    · exact va_AO.use hwc.2.1
    · exact va_AO.use hwc.2.2.1
  have hcT : s.vm.findClass ("[" ++ (FieldType.object C).toString) = some (tA t) := by
    rcases hC with ⟨rfl, rfl⟩ | ⟨rfl, rfl⟩
    · obtain ⟨-, -, -, -, -, h⟩ := (hK.2 2 _ rfl).2
      exact h
    · obtain ⟨-, -, -, -, -, h⟩ := (hK.2 3 _ rfl).2
      exact h
  refine W.anew hx hb hown (hw _ hcl) hov (g := F0 m pc ls (.int (iN (n : Int)) :: rest)) rfl hdg rfl n0 (by rw [nC]; omega) hc (by rw [nC]; exact hs) (fun cA kA comp f1 f2 f3 f4 => ?_)
  have hA : cA = tA t := Option.some.inj (f1.symm.trans hcT)
  subst hA
  rw [nC]
  generalize hH1 : H.push ({ cls := tA t, slots := Array.replicate n .null, vm := .none } : Cell) = H1
  have z1 : H1.size = H.size + 1 := by rw [← hH1, Array.size_push]
  have e1 : va_at D clA (H.size, .inl (tA t, (n, .inr (.inr (.inr (.inr (fun _ => none))))))) H1 := by
    show H1[H.size]? = some (vp_cell _ _)
    rw [vp_cell_q, ← hH1, Array.getElem?_push_size, ← arrV_new]
    rfl
  have o1 : ∀ q : Nat, q < H.size → H1[q]? = H[q]? := fun q hq => by rw [← hH1, Array.getElem?_push, if_neg (Nat.ne_of_lt hq)]
  have K := kk H1 ⟨g.1.push z1 o1 e1, vS_push g.2 z1 o1⟩
  rw [← g.1.1] at K
  exact K
/-- an object into an array of references, at place q0 -/
theorem c_ast {C : String} {t n q0 v i : Nat} {f : Nat → Option Nat} (X : CXt p s m args meth c D tA own nL cc) (hC : (C = "RingDater$Timber" ∧ t = 2) ∨ (C = "java/lang/String" ∧ t = 3)) (hn : n ≤ 10000) (g : CG D b s L H locs) (he : L[q0]? = some (.inl (tA t, (n, .inr (.inr (.inr (.inr f))))))) (hi : i < n) (hr : va_Any C s H v) (hdg : decode cc pc = .ok (.aastore, 1))
    (kk : ∀ H1 locs1, CG D b s (L.set q0 (.inl (tA t, (n, .inr (.inr (.inr (.inr (va_up f i (some v)))))))))  H1 locs1 → W p l e R s m args below meth c H1 locs1 cells slots Q (F0 m (pc + 1) ls rest)) : W p l e R s m args below meth c H locs cells slots Q (F0 m pc ls (.ref v :: .int (iN (i : Int)) :: .ref (b + q0) :: rest)) := by
  obtain ⟨hx, hb, hml, hown, hw, hK, hwc, hrt, hlk⟩ := X
  have nC : (iN (i : Int)).toNatClampNeg = i := iN_clamp (by omega) (by omega)
  have n0 : ¬ iN (i : Int) < 0 := fun q => by
    have := (iN_lt ⟨by omega, by omega⟩ inR_0).mp q
    omega
  obtain ⟨cellV, g1, g3, ⟨kC, hkC⟩, hasg⟩ := hr
  have hRA : va_RA s (tA t) (.object C) := by
    rcases hC with ⟨rfl, rfl⟩ | ⟨rfl, rfl⟩
    · exact (hK.2 2 _ rfl).2
    · exact (hK.2 3 _ rfl).2
  obtain ⟨kA, comp, k1, k2, k3, -⟩ := hRA
  obtain ⟨kE, hkE, -⟩ := Vm.findClass_spec k3
  have ha : (wsL b L)[q0]? = some (b + q0, .inl (tA t, (n, .inr (.inr (.inr (.inr f)))))) := by rw [wsL_at, he]; rfl
  refine W.aast hx hb (g.1.2 q0 _ ha) (fun q h => by cases h) (fun h => by cases h) k1 k2 rfl hkE ⟨n0, by show _ < (arrV _ _ _).slots.size; rw [arrV_size, nC]; exact hi⟩ g1 (fun q h => by rw [h] at g3; cases g3) hkC (hasg _ k3) rfl rfl hdg fun H1 e z oq => ?_
  have hat : va_at D clA (b + q0, .inl (tA t, (n, .inr (.inr (.inr (.inr (va_up f i (some v)))))))) H1 := by
    show H1[b + q0]? = some (vp_cell _ _)
    rw [e, vp_cell_q, vp_cell_q, arrV_store]
    congr 2
    funext q
    rw [nC]
    by_cases hq : q = i
    · subst hq
      simp [updV, va_up, va_rf]
    · simp [updV, va_up, hq]
  have hP := g.1.2.set wsL_D ha hat oq
  rw [wsL_set] at hP
  exact kk H1 _ ⟨⟨by rw [z, g.1.1, List.length_set], hP⟩, g.2.put z oq (by show b ≤ b + q0; omega)⟩
/-- a number into an array of numbers, at place q0 -/
theorem c_iast {n q0 i : Nat} {x : Int} {f : Nat → Int32} (X : CXt p s m args meth c D tA own nL cc) (hn : n ≤ 10000) (g : CG D b s L H locs) (he : L[q0]? = some (.inl (tA 0, (n, .inl f)))) (hi : i < n) (hdg : decode cc pc = .ok (.iastore, 1))
    (kk : ∀ H1 locs1, CG D b s (L.set q0 (.inl (tA 0, (n, .inl (upd f i (iN x)))))) H1 locs1 → W p l e R s m args below meth c H1 locs1 cells slots Q (F0 m (pc + 1) ls rest)) : W p l e R s m args below meth c H locs cells slots Q (F0 m pc ls (.int (iN x) :: .int (iN (i : Int)) :: .ref (b + q0) :: rest)) := by
  obtain ⟨hx, hb, hml, hown, hw, hK, hwc, hrt, hlk⟩ := X
  have nC : (iN (i : Int)).toNatClampNeg = i := iN_clamp (by omega) (by omega)
  have n0 : ¬ iN (i : Int) < 0 := fun q => by
    have := (iN_lt ⟨by omega, by omega⟩ inR_0).mp q
    omega
  have ha : (wsL b L)[q0]? = some (b + q0, .inl (tA 0, (n, .inl f))) := by rw [wsL_at, he]; rfl
  refine W.iast hx hb (g.1.2 q0 _ ha) ((hK.2 0 _ rfl).1 n (fun j => .int (f j))) (fun q => by cases q) (by show ¬ (iN (i : Int) < 0 ∨ (arrV _ _ _).slots.size ≤ _); rw [arrV_size, nC]; exact fun h => h.elim n0 (fun h2 => by have h3 : n ≤ i := h2; omega)) rfl rfl hdg fun H1 e z oq => ?_
  have hat : va_at D clA (b + q0, .inl (tA 0, (n, .inl (upd f i (iN x))))) H1 := by
    show H1[b + q0]? = some (vp_cell _ _)
    rw [e, vp_cell_i, vp_cell_i, arrV_store]
    congr 2
    funext q
    rw [nC]
    by_cases hq : q = i
    · subst hq
      simp [updV, upd]
    · simp [updV, upd, hq]
  have hP := g.1.2.set wsL_D ha hat oq
  rw [wsL_set] at hP
  exact kk H1 _ ⟨⟨by rw [z, g.1.1, List.length_set], hP⟩, g.2.put z oq (by show b ≤ b + q0; omega)⟩
theorem ct_ret {mc ms : Nat} {Lf : List va_E} (X : CXt p s m args meth c D tA own nL cc) (g : CG D b s Lf H locs) (hdg : decode cc pc = .ok (.return_, 1)) : W p l e R s m args below meth c H locs mc ms (MQ below (CPost D b Lf) args s mc ms (fun q => b ≤ q)) (F0 m pc ls []) := by
  obtain ⟨hx, hb, hml, hown, hw, hK, hwc, hrt, hlk⟩ := X
  exact W.vret hx hb hrt (fun t ht _ => ⟨⟨rfl, by rw [ht]; exact g.1⟩, g.2.F ht⟩) g.2.2.2 hdg hlk
end CTR
theorem ct_of {y : MethodName} {cc : ByteArray} {nL fr lo mc ms ci : Nat} {av : List Value} {Lf : (Nat → ClassId) → Nat → List va_E} (hpl : plainName y.cls = true) (hy : y.name = "<init>") (hci : y.cls = Rn ci) (hnl : (lg_sl ((.ref 0 : Value) :: av)).length ≤ nL)
    (h : ∀ (p : Program) (l : Launch) (e : Env) (s : State) (m : MethodId) (args : Array Value) (below : List Frame) (meth : Method) (c : Code) (D : va_G) (tA : Nat → ClassId) (b : Nat) (ls : Array Slot), CXt p s m args meth c D tA (Rn ci) nL cc → meth.name = "<init>" → CG D b s [.inr (ci, dfl ci)] s.heap [] → lv_has ls nL (lv_args 0 (.ref b :: av)) →
      W p l e { frames := fr, cells := mc, slots := ms, locals := lo } s m args below meth c s.heap [] 0 0 (MQ below (CPost D b (Lf tA b)) args s mc ms (fun q => b ≤ q)) (F0 m 0 ls [])) : CtorC y cc nL fr lo mc ms av ci Lf := by
  intro l D tA b
  refine Met.ofW (cc := cc) (maxL := nL) (ret := none) hpl rfl ?_
  intro p e s m args below meth c s₁ B hml hv
  obtain ⟨rfl, hCH, hK, hwc⟩ := hv
  have hts := atoms_spec (ws := Cond.code y cc nL none :: gW) B.pre
  have hown : s.vm.findClass (Rn ci) = some m.cls := by rw [← hci]; exact findClass_of_methodNamed B.named
  rw [lg_entry_eq]
  have hl := lv_entry ((.ref b : Value) :: av) (n := nL) hnl
  exact h p l e s m _ below meth c D tA b _ ⟨B.exec, B.bytes, hml, hown, fun w hw => hts w (List.mem_cons_of_mem _ hw), hK, hwc, B.returns, B.notSynchronized⟩ ((name_of_methodNamed B.named B.method).1.trans hy) ⟨hCH, va_S.rf⟩ hl
/-- a method over cells one behind another -/
def LMet (y : MethodName) (cc : ByteArray) (nL fr lo : Nat) (av : Nat → List Value) (L Lf : (Nat → ClassId) → Nat → List va_E) : Prop := ∀ (l : Launch) (D : va_G) (tA : Nat → ClassId) (b : Nat),
  Met l y (Cond.code y cc nL none :: gW) { frames := fr, cells := 0, slots := 0, locals := lo } (va_Pc (av b) (LPre D tA b (L tA b))) (CPost D b (Lf tA b)) 0 0 (fun q => b ≤ q)
theorem lm_of {y : MethodName} {cc : ByteArray} {nL fr lo ci : Nat} {av : Nat → List Value} {L Lf : (Nat → ClassId) → Nat → List va_E} (hpl : plainName y.cls = true) (hci : y.cls = Rn ci) (hnl : ∀ b, (lg_sl (av b)).length ≤ nL)
    (h : ∀ (p : Program) (l : Launch) (e : Env) (s : State) (m : MethodId) (args : Array Value) (below : List Frame) (meth : Method) (c : Code) (D : va_G) (tA : Nat → ClassId) (b : Nat) (ls : Array Slot), CXt p s m args meth c D tA (Rn ci) nL cc → CG D b s (L tA b) s.heap [] → lv_has ls nL (lv_args 0 (av b)) →
      W p l e { frames := fr, cells := 0, slots := 0, locals := lo } s m args below meth c s.heap [] 0 0 (MQ below (CPost D b (Lf tA b)) args s 0 0 (fun q => b ≤ q)) (F0 m 0 ls [])) : LMet y cc nL fr lo av L Lf := by
  intro l D tA b
  refine Met.ofW (cc := cc) (maxL := nL) (ret := none) hpl rfl ?_
  intro p e s m args below meth c s₁ B hml hv
  obtain ⟨rfl, hCH, hK, hwc⟩ := hv
  have hts := atoms_spec (ws := Cond.code y cc nL none :: gW) B.pre
  have hown : s.vm.findClass (Rn ci) = some m.cls := by rw [← hci]; exact findClass_of_methodNamed B.named
  rw [lg_entry_eq]
  exact h p l e s m _ below meth c D tA b _ ⟨B.exec, B.bytes, hml, hown, fun w hw => hts w (List.mem_cons_of_mem _ hw), hK, hwc, B.returns, B.notSynchronized⟩ ⟨hCH, va_S.rf⟩ (lv_entry (av b) (n := nL) (hnl b))
section CTR2
variable {p : Program} {l : Launch} {e : Env} {R : Room} {s : State} {m : MethodId} {args : Array Value} {below : List Frame} {meth : Method} {c : Code} {Q : State → Prop}
variable {D : va_G} {tA : Nat → ClassId} {b : Nat} {own : String} {nL : Nat} {cc : ByteArray} {L : List va_E} {H : Heap} {locs : List Loc} {cells slots pc : Nat} {ls : Array Slot} {rest : List Value}
theorem c_afterW {Lc : List va_E} {a : Array Value} {st0 : List Value} (g : CG D b s L H locs) (hr : va_Run p l e R s m args below meth c H locs cells slots 0 0 (F0 m pc ls st0) rest (CPost D b Lc a) (fun x => b ≤ x))
    (kk : ∀ H1 locs1, CG D b s Lc H1 locs1 → W p l e R s m args below meth c H1 locs1 cells slots Q (F0 m (pc + 3) ls rest)) : W p l e R s m args below meth c H locs cells slots Q (F0 m pc ls st0) := by
  intro T hT X
  obtain ⟨v, st₀, t, T', L1, h0, X', hL, e1, e2, ⟨⟨hv, hz, hP⟩, hsz, hkk⟩, st⟩ := hr T hT X
  rw [h0] at hsz hkk
  have hv' : v = none := by cases hv; rfl
  subst hv'
  have g1 : CG D b s Lc T'.heap (locs ++ L1) := by
    rw [e1]
    refine ⟨⟨hz, hP⟩, Nat.le_trans g.2.1 hsz, fun x h1 h2 => ?_, fun x hx => ?_⟩
    · rw [hkk x (Nat.lt_of_lt_of_le h1 g.2.1) h2]
      exact g.2.2.1 x h1 h2
    · rcases List.mem_append.mp hx with h | h
      · exact g.2.2.2 x h
      · exact hL x h
  obtain ⟨t2, a1, b1⟩ := kk T'.heap (locs ++ L1) g1 T' rfl X'
  exact ⟨t2, st t2 a1, b1⟩
/-- a virtual call of the object's own method -/
theorem c_vcall {ci index nL2 fr lo : Nat} {y : MethodName} {c2 : ByteArray} {fs : List Value} {L0 Lc : List va_E} {LA LB : (Nat → ClassId) → Nat → List va_E} (hM : LMet y c2 nL2 fr lo (fun b => [.ref b]) LA LB) (X : CXt p s m args meth c D tA own nL cc) (hci : ci < 13) (hyc : y.cls = Rn ci) (g : CG D b s (.inr (ci, fs) :: L0) H locs) (eA : LA tA b = .inr (ci, fs) :: L0) (eB : LB tA b = Lc) (hlink : Cond.methodLink own index y ∈ gW) (hini : Cond.initialized y.cls ∈ gW) (hinst : Cond.instanceMethod y ∈ gW) (hsel : Cond.selects y.cls y y ∈ gW) (hcode : Cond.code y c2 nL2 none ∈ gW)
    (hd : y.cls ≠ "java/lang/invoke/MethodHandle" ∧ y.cls ≠ "java/lang/invoke/VarHandle" ∧ (parseMethodDescriptor y.desc).map (fun d => d.parameters.length) = some 0) (hR : fr + 1 ≤ R.frames ∧ 8 + (nL2 + 11) + lo ≤ R.locals) (hf : cells ≤ R.cells ∧ slots ≤ R.slots) (hls : ls.size = nL) (hdg : decode cc pc = .ok (.invokevirtual index, 3))
    (kk : ∀ H1 locs1, CG D b s Lc H1 locs1 → W p l e R s m args below meth c H1 locs1 cells slots Q (F0 m (pc + 3) ls [])) : W p l e R s m args below meth c H locs cells slots Q (F0 m pc ls [.ref b]) := by
  obtain ⟨hx, hb, hml, hown, hw, hK, hwc, hrt, hlk⟩ := X
  obtain ⟨c1, -⟩ := cls_el hci
  have hgood : GoodIn gW (Cond.code y c2 nL2 none :: gW) := by
    intro w hw
    rcases List.mem_cons.mp hw with rfl | hw
    · exact ⟨hcode, good_of_word (List.mem_filter.mp hcode).2⟩
    · exact ⟨hw, good_of_word (List.mem_filter.mp hw).2⟩
  have hMet := hM l D tA b
  rw [eA, eB] at hMet
  have hrecv : ∃ cellB : Cell, H[b]? = some cellB ∧ cellB.vm.isStatics = false ∧ s.vm.findClass y.cls = some cellB.cls := by
    rw [hyc]
    exact va_recv hK g.1.2 c1 (q0 := 0) (by rw [wsL_at]; rfl)
  exact c_afterW g (va_runV (own := own) (Ts := gW) (nL := nL) (As := []) (C := y.cls) (n := 0) ⟨hx, hb, hml, hown, hw⟩ hMet ⟨callB_of 0 hw hgood rfl rfl rfl (hw _ hini) (hw _ hlink) hd hR, hw _ hinst, hw _ hsel⟩ ⟨LPre.blind _, hrecv, fun U hU hW => ⟨rfl, by rw [hU]; exact g.1, va_K.moved hW.alike hK, hwc.warm hW⟩⟩ rfl rfl hls rfl (lv_room (pc := pc) (ls := ls) (rest := [.ref b]) (by simp)) hdg hf) kk
end CTR2
