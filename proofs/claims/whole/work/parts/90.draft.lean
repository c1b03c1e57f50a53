/-! CONSTRUCTORS, 1: cells one behind another from b on; a row an instruction. -/
def wsL (b : Nat) (L : List va_E) : va_W := L.mapIdx (fun i e => (b + i, e))
theorem wsL_at {b : Nat} {L : List va_E} {i : Nat} : (wsL b L)[i]? = (L[i]?).map (fun e => (b + i, e)) := by
  simp only [wsL, List.getElem?_mapIdx]
theorem wsL_len {b : Nat} {L : List va_E} : (wsL b L).length = L.length := by simp [wsL]
theorem wsL_app {b : Nat} {L : List va_E} {e : va_E} : wsL b (L ++ [e]) = wsL b L ++ [(b + L.length, e)] := by
  apply List.ext_getElem?
  intro i
  rw [wsL_at]
  by_cases h : i < L.length
  · rw [List.getElem?_append_left h, List.getElem?_append_left (by rw [wsL_len]; exact h), wsL_at]
  · rw [List.getElem?_append_right (by omega), List.getElem?_append_right (by rw [wsL_len]; omega), wsL_len]
    by_cases h2 : i = L.length
    · subst h2
      simp
    · rw [List.getElem?_eq_none (by simp; omega), List.getElem?_eq_none (by simp; omega)]
      rfl
theorem wsL_set {b i : Nat} {L : List va_E} {e : va_E} : (wsL b L).set i (b + i, e) = wsL b (L.set i e) := by
  apply List.ext_getElem?
  intro j
  rw [wsL_at]
  by_cases h : i = j
  · subst h
    by_cases hl : i < L.length
    · rw [List.getElem?_set_self (by rw [wsL_len]; exact hl), List.getElem?_set_self hl]
      rfl
    · rw [List.getElem?_eq_none (by simp [wsL_len]; omega), List.getElem?_eq_none (by simp; omega)]
      rfl
  · rw [List.getElem?_set_ne h, List.getElem?_set_ne h, wsL_at]
theorem wsL_D {b : Nat} {L : List va_E} : va_D (fun q => b ≤ q) (wsL b L) := by
  refine ⟨fun i j p q h1 h2 h => ?_, fun k q h => ?_⟩
  · rw [wsL_at] at h1 h2
    obtain ⟨x, -, rfl⟩ := Option.map_eq_some_iff.mp h1
    obtain ⟨y, -, rfl⟩ := Option.map_eq_some_iff.mp h2
    have h' : b + i = b + j := h
    omega
  · rw [wsL_at] at h
    obtain ⟨x, -, rfl⟩ := Option.map_eq_some_iff.mp h
    show b ≤ b + k
    omega
def CH (D : va_G) (b : Nat) (L : List va_E) (H : Heap) : Prop := H.size = b + L.length ∧ va_P D clA (wsL b L) H
/-- the fields of a new object -/
def dfl (ci : Nat) : List Value := (List.range (Nc ci)).map (fun j => match parseFieldDescriptor (Tc ci j).2.2.1 with
  | some t => defaultValue t
  | none => .null)
def Wc (D : va_G) (tA : Nat → ClassId) (U : State) : Prop := (∀ o x y h, Cond.methodLinkNest o x y h ∈ lw_tbl → va_Nw (.methodLinkNest o x y h) U) ∧ va_AO "RingDater$Timber" U ∧ va_AO "java/lang/String" U ∧ va_K D clA [(tA 4, .byte), (tA 5, .long)] U
theorem Wc.warm {D : va_G} {tA : Nat → ClassId} {s U : State} (hW : s.WarmedH U.vm) (h : Wc D tA s) : Wc D tA U := ⟨fun o x y z hm => (h.1 o x y z hm).warmM hW, va_AO.moved hW.alike h.2.1, va_AO.moved hW.alike h.2.2.1, va_K.moved hW.alike h.2.2.2⟩
theorem Wc.same {D : va_G} {tA : Nat → ClassId} {u U : State} (hv : U.vm = u.vm) (h : Wc D tA u) : Wc D tA U := ⟨fun o x y z hm => (h.1 o x y z hm).same rfl hv.symm, by
  have e : u.vm.Alike U.vm := by rw [hv]; exact Vm.Alike.refl _
  exact ⟨va_AO.moved e h.2.1, va_AO.moved e h.2.2.1, va_K.moved e h.2.2.2⟩⟩
/-- a constructor's contract: at b its new object, the last cell; behind it the cells of Lf -/
def LPre (D : va_G) (tA : Nat → ClassId) (b : Nat) (L : List va_E) (U : State) : Prop := CH D b L U.heap ∧ va_K D clA (tysA tA) U ∧ Wc D tA U
abbrev CPre (D : va_G) (tA : Nat → ClassId) (b ci : Nat) (U : State) : Prop := LPre D tA b [.inr (ci, dfl ci)] U
def CPost (D : va_G) (b : Nat) (L : List va_E) : Array Value → State → Outcome → State → Prop := fun _ st oc t => (oc = .returned none ∧ CH D b L t.heap) ∧ va_F (fun q => b ≤ q) st t
def CtorC (y : MethodName) (cc : ByteArray) (nL fr lo mc ms : Nat) (av : List Value) (ci : Nat) (Lf : (Nat → ClassId) → Nat → List va_E) : Prop := ∀ (l : Launch) (D : va_G) (tA : Nat → ClassId) (b : Nat),
  Met l y (Cond.code y cc nL none :: gW) { frames := fr, cells := mc, slots := ms, locals := lo } (va_Pc (.ref b :: av) (CPre D tA b ci)) (CPost D b (Lf tA b)) mc ms (fun q => b ≤ q)
theorem va_at_kept {D : va_G} {cl : List vw_C} {q : Nat × va_E} {H H1 : Heap} (h : va_at D cl q H) (e : H1[q.1]? = H[q.1]?) : va_at D cl q H1 := by
  have h1 : va_P D cl [q] H := fun k y hy => by
    have hz : k < 1 := (List.getElem?_eq_some_iff.mp hy).1
    rw [show k = 0 by omega] at hy
    cases hy
    exact h
  exact (h1.kept (fun k y hy => by
    have hz : k < 1 := (List.getElem?_eq_some_iff.mp hy).1
    rw [show k = 0 by omega] at hy
    cases hy
    exact e)) 0 q rfl
section CTR
variable {p : Program} {l : Launch} {e : Env} {R : Room} {s : State} {m : MethodId} {args : Array Value} {below : List Frame} {meth : Method} {c : Code} {Q : State → Prop}
variable {D : va_G} {tA : Nat → ClassId} {b : Nat} {own : String} {nL : Nat} {cc : ByteArray} {L : List va_E} {H : Heap} {locs : List Loc} {cells slots pc : Nat} {ls : Array Slot} {rest : List Value}
def CXt (p : Program) (s : State) (m : MethodId) (args : Array Value) (meth : Method) (c : Code) (D : va_G) (tA : Nat → ClassId) (own : String) (nL : Nat) (cc : ByteArray) : Prop := p.tables.exec = Jvm.exec ∧ c.code = cc ∧ c.maxLocals = nL ∧ s.vm.findClass own = some m.cls ∧ (∀ w ∈ gW, w.before args s = true) ∧ va_K D clA (tysA tA) s ∧ Wc D tA s ∧ meth.sig.returnType = none ∧ meth.locks = false
def CG (D : va_G) (b : Nat) (s : State) (L : List va_E) (H : Heap) (locs : List Loc) : Prop := CH D b L H ∧ va_S (fun q => b ≤ q) s.heap H locs
theorem CH.push {H1 : Heap} {x : va_E} (g : CH D b L H) (z : H1.size = H.size + 1) (o : ∀ q, q < H.size → H1[q]? = H[q]?) (h : va_at D clA (H.size, x) H1) : CH D b (L ++ [x]) H1 := by
  refine ⟨by rw [z, g.1]; simp; omega, ?_⟩
  rw [wsL_app, ← g.1]
  refine (g.2.kept (fun k y hy => o y.1 ((g.2 k y hy).lt))).app (fun k y hy => ?_)
  have hz : k < 1 := (List.getElem?_eq_some_iff.mp hy).1
  rw [show k = 0 by omega] at hy
  cases hy
  exact h
theorem vS_push {H1 : Heap} (h : va_S (fun q => b ≤ q) s.heap H locs) (z : H1.size = H.size + 1) (o : ∀ q, q < H.size → H1[q]? = H[q]?) : va_S (fun q => b ≤ q) s.heap H1 locs :=
  ⟨Nat.le_trans h.1 (by omega), fun x h1 h2 => (o x (Nat.lt_of_lt_of_le h1 h.1)).trans (h.2.1 x h1 h2), h.2.2⟩
theorem c_newa {aty : ArrayType} {t n : Nat} (X : CXt p s m args meth c D tA own nL cc) (hat : aty = .int ∧ t = 0 ∨ aty = .boolean ∧ t = 1) (hn : n ≤ 10000) (g : CG D b s L H locs) (hc : cells + 1 ≤ R.cells) (hs : slots + n ≤ R.slots) (hdg : decode cc pc = .ok (.newarray aty, 2))
    (hwi : Cond.arrayClass .int ∈ gW) (hwb : Cond.arrayClass .boolean ∈ gW)
    (kk : ∀ H1, CG D b s (L ++ [.inl (tA t, (n, .inl (fun _ => 0)))]) H1 locs → W p l e R s m args below meth c H1 locs (cells + 1) (slots + n) Q (F0 m (pc + 2) ls (.ref (b + L.length) :: rest))) : W p l e R s m args below meth c H locs cells slots Q (F0 m pc ls (.int (iN (n : Int)) :: rest)) := by
  obtain ⟨hx, hb, hml, hown, hw, hK, hwc, hrt, hlk⟩ := X
  have n0 : ¬ iN (n : Int) < 0 := fun q => by
    have := (iN_lt ⟨by omega, by omega⟩ inR_0).mp q
    omega
  have nC : (iN (n : Int)).toNatClampNeg = n := iN_clamp (by omega) (by omega)
  rcases hat with ⟨rfl, rfl⟩ | ⟨rfl, rfl⟩
  · refine va_newaK (atype := .int) hx hb (hw _ hwi) (g := F0 m pc ls (.int (iN (n : Int)) :: rest)) rfl hdg rfl n0 nC (by show n * 4 ≤ _; omega) hc hs rfl (fun H1 cA e1 z1 o1 _ hN => ?_)
    have hA : cA = tA 0 := by
      have h2 : s.vm.findClass ("[" ++ FieldType.int.toString) = some (tA 0) := (hK.2 0 _ rfl).2
      exact Option.some.inj (hN.symm.trans h2)
    subst hA
    have K := kk H1 ⟨g.1.push z1 o1 e1, vS_push g.2 z1 o1⟩
    rw [← g.1.1] at K
    exact K
  · refine va_newaK (atype := .boolean) hx hb (hw _ hwb) (g := F0 m pc ls (.int (iN (n : Int)) :: rest)) rfl hdg rfl n0 nC (by show n * 1 ≤ _; omega) hc hs rfl (fun H1 cA e1 z1 o1 _ hN => ?_)
    have hA : cA = tA 1 := by
      have h2 : s.vm.findClass ("[" ++ FieldType.boolean.toString) = some (tA 1) := (hK.2 1 _ rfl).2
      exact Option.some.inj (hN.symm.trans h2)
    subst hA
    have K := kk H1 ⟨g.1.push z1 o1 e1, vS_push g.2 z1 o1⟩
    rw [← g.1.1] at K
    exact K
theorem c_new {ci index : Nat} (X : CXt p s m args meth c D tA own nL cc) (hci : ci < 13) (g : CG D b s L H locs) (hcl : Cond.classLink own index (Rn ci) ∈ gW) (hins : Cond.instantiable (Rn ci) (Nc ci) ∈ gW) (hini : Cond.initialized (Rn ci) ∈ gW) (hc : cells + 1 ≤ R.cells) (hs : slots + Nc ci ≤ R.slots) (hdg : decode cc pc = .ok (.new index, 3))
    (kk : ∀ H1, CG D b s (L ++ [.inr (ci, dfl ci)]) H1 locs → W p l e R s m args below meth c H1 locs (cells + 1) (slots + Nc ci) Q (F0 m (pc + 3) ls (.ref (b + L.length) :: rest))) : W p l e R s m args below meth c H locs cells slots Q (F0 m pc ls rest) := by
  obtain ⟨hx, hb, hml, hown, hw, hK, hwc, hrt, hlk⟩ := X
  obtain ⟨c1, c2⟩ := cls_el hci
  obtain ⟨tyf, t1, t2⟩ := tyc_el hci
  have hKn := hK.1 ci _ c1
  refine W.newcK hx hb hown (hw _ hcl) (hw _ hins) (hw _ hini) (g := F0 m pc ls rest) rfl hdg hc hs hKn.2.1 rfl fun H1 kC hkC e1 z1 o1 => ?_
  have hat : va_at D clA (H.size, .inr (ci, dfl ci)) H1 := by
    refine ⟨_, c1, (u_born tyf hw c2 hKn hkC e1 t1).to (fun j hj => ?_)⟩
    have hj' : j < Nc ci := hj
    show _ = vp_V (dfl ci) j
    simp only [vp_V, dfl, List.getD_eq_getElem?_getD, List.getElem?_map, List.getElem?_range hj', Option.map_some, Option.getD_some, t1 j hj']
  have K := kk H1 ⟨g.1.push z1 o1 hat, vS_push g.2 z1 o1⟩
  rw [← g.1.1] at K
  exact K
/-- a field of the object that is made -/
theorem c_put {ci index k : Nat} {fs : List Value} {L0 : List va_E} {ty : FieldType} {v : Value} (X : CXt p s m args meth c D tA (Rn ci) nL cc) (hci : ci < 13) (g : CG D b s (.inr (ci, fs) :: L0) H locs) (hk : k < Nc ci) (hlen : k < fs.length) (hl : Cond.fieldLink (Rn ci) index (Tc ci k).1 (Tc ci k).2.1 (Tc ci k).2.2.1 ∈ gW) (hin0 : (Tc ci k).2.2.2 = true → meth.name = "<init>") (hdecl : (Tc ci k).1 = Rn ci) (hd : parseFieldDescriptor (Tc ci k).2.2.1 = some ty) (hn : narrow ty v = v) (hf : fits ty v = true) (hdg : decode cc pc = .ok (.putfield index, 3))
    (kk : ∀ H1 locs1, CG D b s (.inr (ci, fs.set k v) :: L0) H1 locs1 → W p l e R s m args below meth c H1 locs1 cells slots Q (F0 m (pc + 3) ls rest)) : W p l e R s m args below meth c H locs cells slots Q (F0 m pc ls (v :: .ref b :: rest)) := by
  obtain ⟨hx, hb, hml, hown, hw, hK, hwc, hrt, hlk⟩ := X
  obtain ⟨c1, c2⟩ := cls_el hci
  obtain ⟨tyf, t1, t2⟩ := tyc_el hci
  have he : (wsL b (.inr (ci, fs) :: L0))[0]? = some (b, .inr (ci, fs)) := by rw [wsL_at]; rfl
  have hset : (wsL b (.inr (ci, fs) :: L0)).set 0 (b, .inr (ci, fs.set k v)) = wsL b (.inr (ci, fs.set k v) :: L0) := wsL_set (i := 0)
  have hap := va_apart (own := Rn ci) hw c2 tyf t1 t2 hK c1
  obtain ⟨r, h1, cell, q1, q2, q3, q4⟩ := g.1.2 0 _ he
  have hr : r = (Rn ci, Tc ci, Nc ci) := Option.some.inj (h1.symm.trans c1)
  subst hr
  obtain ⟨hS, hfc, kC, hkC, hkind⟩ := hK.1 ci _ c1
  obtain ⟨cf, kf, fi, f, hi, hsl⟩ := hS k hk
  have hlay := hw _ (c2 _ (u_in_lay hk))
  have hst := (u_facts hfc hkC (u_lays hw c2 hk) hi).1
  have fin : ∀ (H1 : Heap) (locs1 : List Loc), locs1 = locs ++ [⟨b, f.slot⟩] → H1[b]? = some (cell.setSlot f.slot v) → H1.size = H.size → (∀ q, q ≠ b → H1[q]? = H[q]?) → CG D b s (.inr (ci, fs.set k v) :: L0) H1 locs1 := by
    rintro H1 _ rfl e1 e2 e3
    rw [hsl] at e1
    have hat : va_at D clA (b, .inr (ci, fs.set k v)) H1 := ⟨_, c1, t_OB.to (V := updV (vp_V fs) k v) ⟨_, e1, q2, q3, t_set q4 hap hk v⟩ (fun j _ => vp_updV_set hlen v j)⟩
    have hP := g.1.2.set wsL_D he hat e3
    rw [hset] at hP
    exact ⟨⟨e2.trans g.1.1, hP⟩, g.2.put e2 e3 (by show b ≤ b; omega)⟩
  cases hfin : (Tc ci k).2.2.2 with
  | true =>
    have hin := hin0 hfin
    unfold u_lay at hlay
    rw [if_pos hfin] at hlay
    have hcf : m.cls = cf := by
      obtain ⟨_, _, c', _, _, _, -, -, hf', -, -, -, hown2, -⟩ := Cond.laysFinal_spec hlay
      have e1 : c' = cf := by have := hi.symm.trans hf'; simp at this; exact this.1.symm
      rw [hdecl] at hown2
      rw [← e1]; exact Option.some.inj (hown.symm.trans hown2)
    have h6 := u_fits hfc hkC hkind (Or.inr hlay) hi hd hn hf
    exact W.putFinK hx hb hown (hw _ hl) hi hst hcf hin (by rw [q2]; exact h6) q1 q3 (by rw [hsl]; exact k2_hasslot (q4 k hk)) rfl rfl hdg fun H' e1 e2 e3 => kk H' _ (fin H' _ rfl e1 e2 e3)
  | false =>
    unfold u_lay at hlay
    rw [if_neg (by rw [hfin]; decide)] at hlay
    have h6 := u_store hfc hkC hkind hlay hi hd hn hf
    exact W.putK hx hb (f := f) ⟨hown, hw _ hl, ⟨_, _, _, hi⟩, hst⟩ (by rw [q2]; exact h6) q1 q3 (by rw [hsl]; exact k2_hasslot (q4 k hk)) rfl rfl hdg fun H' e1 e2 e3 => kk H' _ (fin H' _ rfl e1 e2 e3)
theorem c_get {ci index k : Nat} {fs : List Value} {L0 : List va_E} {v : Value} (X : CXt p s m args meth c D tA (Rn ci) nL cc) (hci : ci < 13) (g : CG D b s (.inr (ci, fs) :: L0) H locs) (hk : k < Nc ci) (hl : Cond.fieldLink (Rn ci) index (Tc ci k).1 (Tc ci k).2.1 (Tc ci k).2.2.1 ∈ gW) (hv : fs[k]? = some v) (hdg : decode cc pc = .ok (.getfield index, 3))
    (kk : W p l e R s m args below meth c H locs cells slots Q (F0 m (pc + 3) ls (v :: rest))) : W p l e R s m args below meth c H locs cells slots Q (F0 m pc ls (.ref b :: rest)) := by
  obtain ⟨hx, hb, hml, hown, hw, hK, hwc, hrt, hlk⟩ := X
  obtain ⟨c1, c2⟩ := cls_el hci
  exact va_get (ref := (Tc ci k).1) hx hb hw c2 hown hK g.1.2 0 (by rw [wsL_at]; rfl) c1 k hk (hw _ hl) (fun _ h => h) hv hdg kk
theorem c_obj {idx : Nat} (X : CXt p s m args meth c D tA own nL cc) (h1 : Cond.methodLink own idx Lib.objectInit ∈ gW) (h2 : Cond.instanceMethod Lib.objectInit ∈ gW) (h3 : Cond.code Lib.objectInit ⟨#[0xb1]⟩ 1 none ∈ gW) (hls : ls.size = nL) (hR : 1 ≤ R.frames ∧ 40 ≤ R.locals) (hdg : decode cc pc = .ok (.invokespecial idx, 3))
    (kk : W p l e R s m args below meth c H locs cells slots Q (F0 m (pc + 3) ls [])) : W p l e R s m args below meth c H locs cells slots Q (F0 m pc ls [.ref b]) := by
  obtain ⟨hx, hb, hml, hown, hw, hK, hwc, hrt, hlk⟩ := X
  refine W.objInit hx hb hown (hw _ h1) (hw _ h2) (hw _ h3) (g := F0 m pc ls [.ref b]) rfl (by show ls.size = _; rw [hml]; exact hls) rfl hdg hR.1 ?_ kk
  have h0 : 2 * (F0 m pc ls [.ref b]).monitorRoom + (([] : List Value).map fun v => v.category).sum ≤ 8 := lv_room (pc := pc) (ls := ls) (rest := [.ref b]) (by simp)
  omega
theorem LPre.blind (vs : List Value) : FrameBlind (va_Pc vs (LPre D tA b L)) := by
  intro a U g mk ⟨h, h1, h2, h3⟩
  exact ⟨h, h1, va_K.moved (u := U) (U := U.calling g mk a) (Vm.Alike.refl U.vm) h2, Wc.same (u := U) (U := U.calling g mk a) rfl h3⟩
/-- behind a constructor's call -/
theorem c_after {q : Nat} {Lc : List va_E} {mc ms : Nat} {a : Array Value} {st0 : List Value} (g : CG D b s (L ++ [.inr (q, dfl q)]) H locs) (hr : va_Run p l e R s m args below meth c H locs cells slots mc ms (F0 m pc ls st0) rest (CPost D (b + L.length) Lc a) (fun x => b + L.length ≤ x))
    (kk : ∀ H1 locs1, CG D b s (L ++ Lc) H1 locs1 → W p l e R s m args below meth c H1 locs1 (cells + mc) (slots + ms) Q (F0 m (pc + 3) ls rest)) : W p l e R s m args below meth c H locs cells slots Q (F0 m pc ls st0) := by
  intro T hT X
  obtain ⟨v, st₀, t, T', L1, h0, X', hL, e1, e2, ⟨⟨hv, hz, hP⟩, hsz, hkk⟩, st⟩ := hr T hT X
  rw [h0] at hsz hkk
  have hv' : v = none := by cases hv; rfl
  subst hv'
  have g1 : CG D b s (L ++ Lc) T'.heap (locs ++ L1) := by
    rw [e1]
    refine ⟨⟨by rw [hz]; simp; omega, fun k y hy => ?_⟩, Nat.le_trans g.2.1 hsz, fun x h1 h2 => ?_, fun x hx => ?_⟩
    · rw [wsL_at] at hy
      obtain ⟨x, hx, rfl⟩ := Option.map_eq_some_iff.mp hy
      by_cases hk : k < L.length
      · rw [List.getElem?_append_left hk] at hx
        have h3 := g.1.2 k (b + k, x) (by rw [wsL_at, List.getElem?_append_left hk, hx]; rfl)
        exact va_at_kept h3 (hkk (b + k) h3.lt (by show ¬ b + L.length ≤ b + k; omega))
      · rw [List.getElem?_append_right (by omega)] at hx
        have h3 := hP (k - L.length) (b + L.length + (k - L.length), x) (by rw [wsL_at, hx]; rfl)
        rw [show b + k = b + L.length + (k - L.length) by omega]
        exact h3
    · have hb2 : x < b := Nat.not_le.mp h2
      rw [hkk x (Nat.lt_of_lt_of_le h1 g.2.1) (by show ¬ b + L.length ≤ x; omega)]
      exact g.2.2.1 x h1 h2
    · rcases List.mem_append.mp hx with h | h
      · exact g.2.2.2 x h
      · have h5 : b + L.length ≤ x.base := hL x h
        show b ≤ x.base
        omega
  obtain ⟨t2, a1, b1⟩ := kk T'.heap (locs ++ L1) g1 T' rfl X'
  exact ⟨t2, st t2 a1, b1⟩
theorem c_call {ci index nL2 fr lo mc ms : Nat} {y : MethodName} {c2 : ByteArray} {av st0 : List Value} {Lf : (Nat → ClassId) → Nat → List va_E} (hC : CtorC y c2 nL2 fr lo mc ms av ci Lf) (X : CXt p s m args meth c D tA own nL cc) (g : CG D b s (L ++ [.inr (ci, dfl ci)]) H locs) (hlink : Cond.methodLink own index y ∈ gW) (hini : Cond.initialized y.cls ∈ gW) (hinst : Cond.instanceMethod y ∈ gW) (hcode : Cond.code y c2 nL2 none ∈ gW) (hy : y.name = "<init>")
    (hd : y.cls ≠ "java/lang/invoke/MethodHandle" ∧ y.cls ≠ "java/lang/invoke/VarHandle" ∧ (parseMethodDescriptor y.desc).map (fun d => d.parameters.length) = some av.length) (hR : fr + 1 ≤ R.frames ∧ 8 + (nL2 + 11) + lo ≤ R.locals) (hf : cells + mc ≤ R.cells ∧ slots + ms ≤ R.slots) (hls : ls.size = nL) (hrest : (rest.map fun v => v.category).sum ≤ 8) (hst : st0 = av.reverse ++ .ref (b + L.length) :: rest) (hdg : decode cc pc = .ok (.invokespecial index, 3))
    (kk : ∀ H1 locs1, CG D b s (L ++ Lf tA (b + L.length)) H1 locs1 → W p l e R s m args below meth c H1 locs1 (cells + mc) (slots + ms) Q (F0 m (pc + 3) ls rest)) : W p l e R s m args below meth c H locs cells slots Q (F0 m pc ls st0) := by
  obtain ⟨hx, hb, hml, hown, hw, hK, hwc, hrt, hlk⟩ := X
  have hgood : GoodIn gW (Cond.code y c2 nL2 none :: gW) := by
    intro w hw
    rcases List.mem_cons.mp hw with rfl | hw
    · exact ⟨hcode, good_of_word (List.mem_filter.mp hcode).2⟩
    · exact ⟨hw, good_of_word (List.mem_filter.mp hw).2⟩
  refine c_after g (va_runI (own := own) (Ts := gW) (nL := nL) (As := av) (n := av.length) ⟨hx, hb, hml, hown, hw⟩ (hC l D tA (b + L.length)) ⟨callB_of av.length hw hgood rfl rfl rfl (hw _ hini) (hw _ hlink) hd hR, hy, hw _ hinst⟩ ⟨LPre.blind _, fun U hU hW => ⟨rfl, ⟨?_, ?_⟩, va_K.moved hW.alike hK, hwc.warm hW⟩⟩ rfl rfl hls hst (lv_room (pc := pc) (ls := ls) (rest := st0) hrest) hdg hf) kk
  · rw [hU, g.1.1, List.length_append]
    show b + (L.length + 1) = b + L.length + 1
    omega
  · rw [hU]
    intro k z hz
    rw [wsL_at] at hz
    obtain ⟨x, hx, rfl⟩ := Option.map_eq_some_iff.mp hz
    have h0 : k < 1 := (List.getElem?_eq_some_iff.mp hx).1
    rw [show k = 0 by omega] at hx ⊢
    cases hx
    exact g.1.2 L.length _ (by rw [wsL_at, List.getElem?_append_right (Nat.le_refl _), Nat.sub_self]; rfl)
/-- .. of a nest mate -/
theorem c_callN {ci index nL2 fr lo mc ms : Nat} {y : MethodName} {host : String} {c2 : ByteArray} {av st0 : List Value} {Lf : (Nat → ClassId) → Nat → List va_E} (hC : CtorC y c2 nL2 fr lo mc ms av ci Lf) (X : CXt p s m args meth c D tA own nL cc) (g : CG D b s (L ++ [.inr (ci, dfl ci)]) H locs) (hlink : Cond.methodLinkNest own index y host ∈ lw_tbl) (hini : Cond.initialized y.cls ∈ gW) (hinst : Cond.instanceMethod y ∈ gW) (hcode : Cond.code y c2 nL2 none ∈ gW) (hy : y.name = "<init>")
    (hd : y.cls ≠ "java/lang/invoke/MethodHandle" ∧ y.cls ≠ "java/lang/invoke/VarHandle" ∧ (parseMethodDescriptor y.desc).map (fun d => d.parameters.length) = some av.length) (hR : fr + 1 ≤ R.frames ∧ 8 + (nL2 + 11) + lo ≤ R.locals) (hf : cells + mc ≤ R.cells ∧ slots + ms ≤ R.slots) (hls : ls.size = nL) (hrest : (rest.map fun v => v.category).sum ≤ 8) (hst : st0 = av.reverse ++ .ref (b + L.length) :: rest) (hdg : decode cc pc = .ok (.invokespecial index, 3))
    (kk : ∀ H1 locs1, CG D b s (L ++ Lf tA (b + L.length)) H1 locs1 → W p l e R s m args below meth c H1 locs1 (cells + mc) (slots + ms) Q (F0 m (pc + 3) ls rest)) : W p l e R s m args below meth c H locs cells slots Q (F0 m pc ls st0) := by
  obtain ⟨hx, hb, hml, hown, hw, hK, hwc, hrt, hlk⟩ := X
  have hgood : GoodIn gW (Cond.code y c2 nL2 none :: gW) := by
    intro w hw
    rcases List.mem_cons.mp hw with rfl | hw
    · exact ⟨hcode, good_of_word (List.mem_filter.mp hcode).2⟩
    · exact ⟨hw, good_of_word (List.mem_filter.mp hw).2⟩
  refine c_after g (va_runIN (own := own) (host := host) (Ts := gW) (nL := nL) (As := av) (n := av.length) ⟨hx, hb, hml, hown, hw⟩ (hC l D tA (b + L.length)) ⟨va_cnB av.length hw hgood rfl rfl rfl (hwc.1 _ _ _ _ hlink) (hw _ hini) hd hR, hy, hw _ hinst⟩ ⟨LPre.blind _, fun U hU hW => ⟨rfl, ⟨?_, ?_⟩, va_K.moved hW.alike hK, hwc.warm hW⟩⟩ rfl rfl hls hst (lv_room (pc := pc) (ls := ls) (rest := st0) hrest) hdg hf) kk
  · rw [hU, g.1.1, List.length_append]
    show b + (L.length + 1) = b + L.length + 1
    omega
  · rw [hU]
    intro k z hz
    rw [wsL_at] at hz
    obtain ⟨x, hx, rfl⟩ := Option.map_eq_some_iff.mp hz
    have h0 : k < 1 := (List.getElem?_eq_some_iff.mp hx).1
    rw [show k = 0 by omega] at hx ⊢
    cases hx
    exact g.1.2 L.length _ (by rw [wsL_at, List.getElem?_append_right (Nat.le_refl _), Nat.sub_self]; rfl)
theorem c_anew {C : String} {t n index : Nat} (X : CXt p s m args meth c D tA own nL cc) (hC : (C = "RingDater$Timber" ∧ t = 2) ∨ (C = "java/lang/String" ∧ t = 3)) (hn : n ≤ 10000) (g : CG D b s L H locs) (hcl : Cond.classLink own index C ∈ gW) (hc : cells + 1 ≤ R.cells) (hs : slots + n ≤ R.slots) (hdg : decode cc pc = .ok (.anewarray index, 3))
    (kk : ∀ H1, CG D b s (L ++ [.inl (tA t, (n, .inr (.inr (.inr (.inr (fun _ => none))))))]) H1 locs → W p l e R s m args below meth c H1 locs (cells + 1) (slots + n) Q (F0 m (pc + 3) ls (.ref (b + L.length) :: rest))) : W p l e R s m args below meth c H locs cells slots Q (F0 m pc ls (.int (iN (n : Int)) :: rest)) := by
  obtain ⟨hx, hb, hml, hown, hw, hK, hwc, hrt, hlk⟩ := X
  have n0 : ¬ iN (n : Int) < 0 := fun q => by
    have := (iN_lt ⟨by omega, by omega⟩ inR_0).mp q
    omega
  have nC : (iN (n : Int)).toNatClampNeg = n := iN_clamp (by omega) (by omega)
  have hov : (Cond.arrayOver (.object C)).before args s = true := by
    rcases hC with ⟨rfl, -⟩ | ⟨rfl, -⟩
    · exact va_AO.use hwc.2.1
    · exact va_AO.use hwc.2.2.1
  have hcT : s.vm.findClass ("[" ++ (FieldType.object C).toString) = some (tA t) := by
    rcases hC with ⟨rfl, rfl⟩ | ⟨rfl, rfl⟩
    · obtain ⟨-, -, -, -, -, h⟩ := (hK.2 2 _ rfl).2
      exact h
    · obtain ⟨-, -, -, -, -, h⟩ := (hK.2 3 _ rfl).2
      exact h
  refine W.anew hx hb hown (hw _ hcl) hov (g := F0 m pc ls (.int (iN (n : Int)) :: rest)) rfl hdg rfl n0 (by rw [nC]; omega) hc (by rw [nC]; exact hs) (fun cA kA comp f1 f2 f3 f4 => ?_)
  have hA : cA = tA t := Option.some.inj (f1.symm.trans hcT)
  subst hA
  rw [nC]
  generalize hH1 : H.push ({ cls := tA t, slots := Array.replicate n .null, vm := .none } : Cell) = H1
  have z1 : H1.size = H.size + 1 := by rw [← hH1, Array.size_push]
  have e1 : va_at D clA (H.size, .inl (tA t, (n, .inr (.inr (.inr (.inr (fun _ => none))))))) H1 := by
    show H1[H.size]? = some (vp_cell _ _)
    rw [vp_cell_q, ← hH1, Array.getElem?_push_size, ← arrV_new]
    rfl
  have o1 : ∀ q : Nat, q < H.size → H1[q]? = H[q]? := fun q hq => by rw [← hH1, Array.getElem?_push, if_neg (Nat.ne_of_lt hq)]
  have K := kk H1 ⟨g.1.push z1 o1 e1, vS_push g.2 z1 o1⟩
  rw [← g.1.1] at K
  exact K
/-- an object into an array of references, at place q0 -/
theorem c_ast {C : String} {t n q0 v i : Nat} {f : Nat → Option Nat} (X : CXt p s m args meth c D tA own nL cc) (hC : (C = "RingDater$Timber" ∧ t = 2) ∨ (C = "java/lang/String" ∧ t = 3)) (hn : n ≤ 10000) (g : CG D b s L H locs) (he : L[q0]? = some (.inl (tA t, (n, .inr (.inr (.inr (.inr f))))))) (hi : i < n) (hr : va_Any C s H v) (hdg : decode cc pc = .ok (.aastore, 1))
    (kk : ∀ H1 locs1, CG D b s (L.set q0 (.inl (tA t, (n, .inr (.inr (.inr (.inr (va_up f i (some v)))))))))  H1 locs1 → W p l e R s m args below meth c H1 locs1 cells slots Q (F0 m (pc + 1) ls rest)) : W p l e R s m args below meth c H locs cells slots Q (F0 m pc ls (.ref v :: .int (iN (i : Int)) :: .ref (b + q0) :: rest)) := by
  obtain ⟨hx, hb, hml, hown, hw, hK, hwc, hrt, hlk⟩ := X
  have nC : (iN (i : Int)).toNatClampNeg = i := iN_clamp (by omega) (by omega)
  have n0 : ¬ iN (i : Int) < 0 := fun q => by
    have := (iN_lt ⟨by omega, by omega⟩ inR_0).mp q
    omega
  obtain ⟨cellV, g1, g3, ⟨kC, hkC⟩, hasg⟩ := hr
  have hRA : va_RA s (tA t) (.object C) := by
    rcases hC with ⟨rfl, rfl⟩ | ⟨rfl, rfl⟩
    · exact (hK.2 2 _ rfl).2
    · exact (hK.2 3 _ rfl).2
  obtain ⟨kA, comp, k1, k2, k3, -⟩ := hRA
  obtain ⟨kE, hkE, -⟩ := Vm.findClass_spec k3
  have ha : (wsL b L)[q0]? = some (b + q0, .inl (tA t, (n, .inr (.inr (.inr (.inr f)))))) := by rw [wsL_at, he]; rfl
  refine W.aast hx hb (g.1.2 q0 _ ha) (fun q h => by cases h) (fun h => by cases h) k1 k2 rfl hkE ⟨n0, by show _ < (arrV _ _ _).slots.size; rw [arrV_size, nC]; exact hi⟩ g1 (fun q h => by rw [h] at g3; cases g3) hkC (hasg _ k3) rfl rfl hdg fun H1 e z oq => ?_
  have hat : va_at D clA (b + q0, .inl (tA t, (n, .inr (.inr (.inr (.inr (va_up f i (some v)))))))) H1 := by
    show H1[b + q0]? = some (vp_cell _ _)
    rw [e, vp_cell_q, vp_cell_q, arrV_store]
    congr 2
    funext q
    rw [nC]
    by_cases hq : q = i
    · subst hq
      simp [updV, va_up, va_rf]
    · simp [updV, va_up, hq]
  have hP := g.1.2.set wsL_D ha hat oq
  rw [wsL_set] at hP
  exact kk H1 _ ⟨⟨by rw [z, g.1.1, List.length_set], hP⟩, g.2.put z oq (by show b ≤ b + q0; omega)⟩
/-- a number into an array of numbers, at place q0 -/
theorem c_iast {n q0 i : Nat} {x : Int} {f : Nat → Int32} (X : CXt p s m args meth c D tA own nL cc) (hn : n ≤ 10000) (g : CG D b s L H locs) (he : L[q0]? = some (.inl (tA 0, (n, .inl f)))) (hi : i < n) (hdg : decode cc pc = .ok (.iastore, 1))
    (kk : ∀ H1 locs1, CG D b s (L.set q0 (.inl (tA 0, (n, .inl (upd f i (iN x)))))) H1 locs1 → W p l e R s m args below meth c H1 locs1 cells slots Q (F0 m (pc + 1) ls rest)) : W p l e R s m args below meth c H locs cells slots Q (F0 m pc ls (.int (iN x) :: .int (iN (i : Int)) :: .ref (b + q0) :: rest)) := by
  obtain ⟨hx, hb, hml, hown, hw, hK, hwc, hrt, hlk⟩ := X
  have nC : (iN (i : Int)).toNatClampNeg = i := iN_clamp (by omega) (by omega)
  have n0 : ¬ iN (i : Int) < 0 := fun q => by
    have := (iN_lt ⟨by omega, by omega⟩ inR_0).mp q
    omega
  have ha : (wsL b L)[q0]? = some (b + q0, .inl (tA 0, (n, .inl f))) := by rw [wsL_at, he]; rfl
  refine W.iast hx hb (g.1.2 q0 _ ha) ((hK.2 0 _ rfl).1 n (fun j => .int (f j))) (fun q => by cases q) (by show ¬ (iN (i : Int) < 0 ∨ (arrV _ _ _).slots.size ≤ _); rw [arrV_size, nC]; exact fun h => h.elim n0 (fun h2 => by have h3 : n ≤ i := h2; omega)) rfl rfl hdg fun H1 e z oq => ?_
  have hat : va_at D clA (b + q0, .inl (tA 0, (n, .inl (upd f i (iN x))))) H1 := by
    show H1[b + q0]? = some (vp_cell _ _)
    rw [e, vp_cell_i, vp_cell_i, arrV_store]
    congr 2
    funext q
    rw [nC]
    by_cases hq : q = i
    · subst hq
      simp [updV, upd]
    · simp [updV, upd, hq]
  have hP := g.1.2.set wsL_D ha hat oq
  rw [wsL_set] at hP
  exact kk H1 _ ⟨⟨by rw [z, g.1.1, List.length_set], hP⟩, g.2.put z oq (by show b ≤ b + q0; omega)⟩
theorem ct_ret {mc ms : Nat} {Lf : List va_E} (X : CXt p s m args meth c D tA own nL cc) (g : CG D b s Lf H locs) (hdg : decode cc pc = .ok (.return_, 1)) : W p l e R s m args below meth c H locs mc ms (MQ below (CPost D b Lf) args s mc ms (fun q => b ≤ q)) (F0 m pc ls []) := by
  obtain ⟨hx, hb, hml, hown, hw, hK, hwc, hrt, hlk⟩ := X
  exact W.vret hx hb hrt (fun t ht _ => ⟨⟨rfl, by rw [ht]; exact g.1⟩, g.2.F ht⟩) g.2.2.2 hdg hlk
end CTR
theorem ct_of {y : MethodName} {cc : ByteArray} {nL fr lo mc ms ci : Nat} {av : List Value} {Lf : (Nat → ClassId) → Nat → List va_E} (hpl : plainName y.cls = true) (hy : y.name = "<init>") (hci : y.cls = Rn ci) (hnl : (lg_sl ((.ref 0 : Value) :: av)).length ≤ nL)
    (h : ∀ (p : Program) (l : Launch) (e : Env) (s : State) (m : MethodId) (args : Array Value) (below : List Frame) (meth : Method) (c : Code) (D : va_G) (tA : Nat → ClassId) (b : Nat) (ls : Array Slot), CXt p s m args meth c D tA (Rn ci) nL cc → meth.name = "<init>" → CG D b s [.inr (ci, dfl ci)] s.heap [] → lv_has ls nL (lv_args 0 (.ref b :: av)) →
      W p l e { frames := fr, cells := mc, slots := ms, locals := lo } s m args below meth c s.heap [] 0 0 (MQ below (CPost D b (Lf tA b)) args s mc ms (fun q => b ≤ q)) (F0 m 0 ls [])) : CtorC y cc nL fr lo mc ms av ci Lf := by
  intro l D tA b
  refine Met.ofW (cc := cc) (maxL := nL) (ret := none) hpl rfl ?_
  intro p e s m args below meth c s₁ B hml hv
  obtain ⟨rfl, hCH, hK, hwc⟩ := hv
  have hts := atoms_spec (ws := Cond.code y cc nL none :: gW) B.pre
  have hown : s.vm.findClass (Rn ci) = some m.cls := by rw [← hci]; exact findClass_of_methodNamed B.named
  rw [lg_entry_eq]
  have hl := lv_entry ((.ref b : Value) :: av) (n := nL) hnl
  exact h p l e s m _ below meth c D tA b _ ⟨B.exec, B.bytes, hml, hown, fun w hw => hts w (List.mem_cons_of_mem _ hw), hK, hwc, B.returns, B.notSynchronized⟩ ((name_of_methodNamed B.named B.method).1.trans hy) ⟨hCH, va_S.rf⟩ hl
/-- a method over cells one behind another -/
def LMet (y : MethodName) (cc : ByteArray) (nL fr lo : Nat) (av : Nat → List Value) (L Lf : (Nat → ClassId) → Nat → List va_E) : Prop := ∀ (l : Launch) (D : va_G) (tA : Nat → ClassId) (b : Nat),
  Met l y (Cond.code y cc nL none :: gW) { frames := fr, cells := 0, slots := 0, locals := lo } (va_Pc (av b) (LPre D tA b (L tA b))) (CPost D b (Lf tA b)) 0 0 (fun q => b ≤ q)
theorem lm_of {y : MethodName} {cc : ByteArray} {nL fr lo ci : Nat} {av : Nat → List Value} {L Lf : (Nat → ClassId) → Nat → List va_E} (hpl : plainName y.cls = true) (hci : y.cls = Rn ci) (hnl : ∀ b, (lg_sl (av b)).length ≤ nL)
    (h : ∀ (p : Program) (l : Launch) (e : Env) (s : State) (m : MethodId) (args : Array Value) (below : List Frame) (meth : Method) (c : Code) (D : va_G) (tA : Nat → ClassId) (b : Nat) (ls : Array Slot), CXt p s m args meth c D tA (Rn ci) nL cc → CG D b s (L tA b) s.heap [] → lv_has ls nL (lv_args 0 (av b)) →
      W p l e { frames := fr, cells := 0, slots := 0, locals := lo } s m args below meth c s.heap [] 0 0 (MQ below (CPost D b (Lf tA b)) args s 0 0 (fun q => b ≤ q)) (F0 m 0 ls [])) : LMet y cc nL fr lo av L Lf := by
  intro l D tA b
  refine Met.ofW (cc := cc) (maxL := nL) (ret := none) hpl rfl ?_
  intro p e s m args below meth c s₁ B hml hv
  obtain ⟨rfl, hCH, hK, hwc⟩ := hv
  have hts := atoms_spec (ws := Cond.code y cc nL none :: gW) B.pre
  have hown : s.vm.findClass (Rn ci) = some m.cls := by rw [← hci]; exact findClass_of_methodNamed B.named
  rw [lg_entry_eq]
  exact h p l e s m _ below meth c D tA b _ ⟨B.exec, B.bytes, hml, hown, fun w hw => hts w (List.mem_cons_of_mem _ hw), hK, hwc, B.returns, B.notSynchronized⟩ ⟨hCH, va_S.rf⟩ (lv_entry (av b) (n := nL) (hnl b))
section CTR2
variable {p : Program} {l : Launch} {e : Env} {R : Room} {s : State} {m : MethodId} {args : Array Value} {below : List Frame} {meth : Method} {c : Code} {Q : State → Prop}
variable {D : va_G} {tA : Nat → ClassId} {b : Nat} {own : String} {nL : Nat} {cc : ByteArray} {L : List va_E} {H : Heap} {locs : List Loc} {cells slots pc : Nat} {ls : Array Slot} {rest : List Value}
theorem c_afterW {Lc : List va_E} {a : Array Value} {st0 : List Value} (g : CG D b s L H locs) (hr : va_Run p l e R s m args below meth c H locs cells slots 0 0 (F0 m pc ls st0) rest (CPost D b Lc a) (fun x => b ≤ x))
    (kk : ∀ H1 locs1, CG D b s Lc H1 locs1 → W p l e R s m args below meth c H1 locs1 cells slots Q (F0 m (pc + 3) ls rest)) : W p l e R s m args below meth c H locs cells slots Q (F0 m pc ls st0) := by
  intro T hT X
  obtain ⟨v, st₀, t, T', L1, h0, X', hL, e1, e2, ⟨⟨hv, hz, hP⟩, hsz, hkk⟩, st⟩ := hr T hT X
  rw [h0] at hsz hkk
  have hv' : v = none := by cases hv; rfl
  subst hv'
  have g1 : CG D b s Lc T'.heap (locs ++ L1) := by
    rw [e1]
    refine ⟨⟨hz, hP⟩, Nat.le_trans g.2.1 hsz, fun x h1 h2 => ?_, fun x hx => ?_⟩
    · rw [hkk x (Nat.lt_of_lt_of_le h1 g.2.1) h2]
      exact g.2.2.1 x h1 h2
    · rcases List.mem_append.mp hx with h | h
      · exact g.2.2.2 x h
      · exact hL x h
  obtain ⟨t2, a1, b1⟩ := kk T'.heap (locs ++ L1) g1 T' rfl X'
  exact ⟨t2, st t2 a1, b1⟩
/-- a virtual call of the object's own method -/
theorem c_vcall {ci index nL2 fr lo : Nat} {y : MethodName} {c2 : ByteArray} {fs : List Value} {L0 Lc : List va_E} {LA LB : (Nat → ClassId) → Nat → List va_E} (hM : LMet y c2 nL2 fr lo (fun b => [.ref b]) LA LB) (X : CXt p s m args meth c D tA own nL cc) (hci : ci < 13) (hyc : y.cls = Rn ci) (g : CG D b s (.inr (ci, fs) :: L0) H locs) (eA : LA tA b = .inr (ci, fs) :: L0) (eB : LB tA b = Lc) (hlink : Cond.methodLink own index y ∈ gW) (hini : Cond.initialized y.cls ∈ gW) (hinst : Cond.instanceMethod y ∈ gW) (hsel : Cond.selects y.cls y y ∈ gW) (hcode : Cond.code y c2 nL2 none ∈ gW)
    (hd : y.cls ≠ "java/lang/invoke/MethodHandle" ∧ y.cls ≠ "java/lang/invoke/VarHandle" ∧ (parseMethodDescriptor y.desc).map (fun d => d.parameters.length) = some 0) (hR : fr + 1 ≤ R.frames ∧ 8 + (nL2 + 11) + lo ≤ R.locals) (hf : cells ≤ R.cells ∧ slots ≤ R.slots) (hls : ls.size = nL) (hdg : decode cc pc = .ok (.invokevirtual index, 3))
    (kk : ∀ H1 locs1, CG D b s Lc H1 locs1 → W p l e R s m args below meth c H1 locs1 cells slots Q (F0 m (pc + 3) ls [])) : W p l e R s m args below meth c H locs cells slots Q (F0 m pc ls [.ref b]) := by
  obtain ⟨hx, hb, hml, hown, hw, hK, hwc, hrt, hlk⟩ := X
  obtain ⟨c1, -⟩ := cls_el hci
  have hgood : GoodIn gW (Cond.code y c2 nL2 none :: gW) := by
    intro w hw
    rcases List.mem_cons.mp hw with rfl | hw
    · exact ⟨hcode, good_of_word (List.mem_filter.mp hcode).2⟩
    · exact ⟨hw, good_of_word (List.mem_filter.mp hw).2⟩
  have hMet := hM l D tA b
  rw [eA, eB] at hMet
  have hrecv : ∃ cellB : Cell, H[b]? = some cellB ∧ cellB.vm.isStatics = false ∧ s.vm.findClass y.cls = some cellB.cls := by
    rw [hyc]
    exact va_recv hK g.1.2 c1 (q0 := 0) (by rw [wsL_at]; rfl)
  exact c_afterW g (va_runV (own := own) (Ts := gW) (nL := nL) (As := []) (C := y.cls) (n := 0) ⟨hx, hb, hml, hown, hw⟩ hMet ⟨callB_of 0 hw hgood rfl rfl rfl (hw _ hini) (hw _ hlink) hd hR, hw _ hinst, hw _ hsel⟩ ⟨LPre.blind _, hrecv, fun U hU hW => ⟨rfl, by rw [hU]; exact g.1, va_K.moved hW.alike hK, hwc.warm hW⟩⟩ rfl rfl hls rfl (lv_room (pc := pc) (ls := ls) (rest := [.ref b]) (by simp)) hdg hf) kk
end CTR2

/-! CONSTRUCTORS, 2 (printed by wip/whole/g71.py). -/
set_option maxRecDepth 100000 in
theorem kw_0 : Cond.arrayClass .int ∈ gW := gW_at (i := 190) rfl rfl
set_option maxRecDepth 100000 in
theorem kw_1 : Cond.arrayClass .boolean ∈ gW := gW_at (i := 191) rfl rfl
set_option maxRecDepth 100000 in
theorem kw_2 : Cond.instanceMethod Lib.objectInit ∈ gW := gW_at (i := 139) rfl rfl
set_option maxRecDepth 100000 in
theorem kw_3 : Cond.code Lib.objectInit ⟨#[0xb1]⟩ 1 none ∈ gW := gW_at (i := 140) rfl rfl
theorem dfl_0 : dfl 0 = [.null, .null, .null, .null, .null, .null, .null, .int 0, .int 0] := rfl
theorem dfl_1 : dfl 1 = [.null, .int 0, .int 0, .int 0, .int 0, .int 0] := rfl
theorem dfl_2 : dfl 2 = [.null, .null, .null, .null, .int 0, .int 0, .int 0] := rfl
theorem dfl_3 : dfl 3 = [.null, .null, .null, .null, .int 0] := rfl
theorem dfl_4 : dfl 4 = [.null, .null, .int 0] := rfl
theorem dfl_5 : dfl 5 = [.null, .null, .int 0, .int 0, .int 0, .int 0, .int 0, .int 0, .int 0, .int 0, .int 0, .int 0] := rfl
theorem dfl_6 : dfl 6 = [.int 0, .null, .null, .null, .null, .null, .null, .int 0] := rfl
theorem dfl_7 : dfl 7 = [.int 0, .int 0, .int 0, .int 0] := rfl
theorem dfl_8 : dfl 8 = [.null, .null, .null, .int 0, .int 0, .int 0, .int 0] := rfl
theorem dfl_9 : dfl 9 = [.null, .null, .int 0, .int 0, .int 0, .int 0] := rfl
theorem dfl_10 : dfl 10 = [.null, .null, .null, .null, .null, .null, .null, .int 0] := rfl
theorem dfl_11 : dfl 11 = [.null, .null, .null, .null, .null, .null, .null, .null, .null, .null, .null, .null, .null, .null, .int 0] := rfl
set_option maxRecDepth 100000 in
theorem kw_4 : Cond.methodLink (Rn 9) 3 Lib.objectInit ∈ gW := gW_at (i := 159) rfl rfl
set_option maxRecDepth 100000 in
theorem kw_5 : Cond.fieldLink (Rn 9) 9 (Tc 9 0).1 (Tc 9 0).2.1 (Tc 9 0).2.2.1 ∈ gW := gW_at (i := 160) rfl rfl
set_option maxRecDepth 100000 in
theorem kw_6 : Cond.fieldLink (Rn 9) 15 (Tc 9 1).1 (Tc 9 1).2.1 (Tc 9 1).2.2.1 ∈ gW := gW_at (i := 161) rfl rfl
def Lf9 (tA : Nat → ClassId) (b : Nat) : List va_E := [.inr (9, [.ref (b + 1), .ref (b + 2), .int 0, .int 0, .int 0, .int 0]), .inl (tA 0, (24, .inl (fun _ => 0))), .inl (tA 1, (24, .inl (fun _ => 0)))]
set_option maxRecDepth 100000 in
theorem dk9_0 : decode prog_11_method_1_code 0 = .ok (.aload_n 0, 1) := rfl
set_option maxRecDepth 100000 in
theorem dk9_1 : decode prog_11_method_1_code 1 = .ok (.invokespecial 3, 3) := rfl
set_option maxRecDepth 100000 in
theorem dk9_4 : decode prog_11_method_1_code 4 = .ok (.aload_n 0, 1) := rfl
set_option maxRecDepth 100000 in
theorem dk9_5 : decode prog_11_method_1_code 5 = .ok (.bipush 24, 2) := rfl
set_option maxRecDepth 100000 in
theorem dk9_7 : decode prog_11_method_1_code 7 = .ok (.newarray .int, 2) := rfl
set_option maxRecDepth 100000 in
theorem dk9_9 : decode prog_11_method_1_code 9 = .ok (.putfield 9, 3) := rfl
set_option maxRecDepth 100000 in
theorem dk9_12 : decode prog_11_method_1_code 12 = .ok (.aload_n 0, 1) := rfl
set_option maxRecDepth 100000 in
theorem dk9_13 : decode prog_11_method_1_code 13 = .ok (.bipush 24, 2) := rfl
set_option maxRecDepth 100000 in
theorem dk9_15 : decode prog_11_method_1_code 15 = .ok (.newarray .boolean, 2) := rfl
set_option maxRecDepth 100000 in
theorem dk9_17 : decode prog_11_method_1_code 17 = .ok (.putfield 15, 3) := rfl
set_option maxRecDepth 100000 in
theorem dk9_20 : decode prog_11_method_1_code 20 = .ok (.return_, 1) := rfl
set_option maxHeartbeats 4000000 in
set_option maxRecDepth 100000 in
theorem ct_9 : CtorC ⟨Rn 9, "<init>", "()V"⟩ prog_11_method_1_code 1 1 40 2 48 [] 9 Lf9 := by
  refine ct_of (by decide) rfl rfl (by decide) ?_
  intro p l e s m args below meth c D tA b ls X hin g hl
  rw [dfl_9] at g
  refine lv_aload_n (i := 0) (x := b) X.1 X.2.1 dk9_0 rfl (lv_at hl 0 rfl) ?_
  refine c_obj X kw_4 kw_2 kw_3 hl.1 (by decide) dk9_1 ?_
  refine lv_aload_n (i := 0) (x := b) X.1 X.2.1 dk9_4 rfl (lv_at hl 0 rfl) ?_
  refine lv_bipush (v := iN ((24 : Nat) : Int)) X.1 X.2.1 dk9_5 (by decide) ?_
  refine c_newa (n := 24) (t := 0) X (by simp) (by omega) g (by decide) (by decide) dk9_7 kw_0 kw_1 (fun H1 g => ?_)
  have g : CG D b s ([.inr (9, [.null, .null, .int 0, .int 0, .int 0, .int 0]), .inl (tA 0, (24, .inl (fun _ => 0)))]) H1 [] := g
  refine c_put (k := 0) (ty := .array .int) (v := .ref (b + 1)) X (by decide) g (by decide) (by simp) kw_5 (fun _ => hin) rfl rfl rfl rfl dk9_9 (fun H2 lc2 g => ?_)
  have g : CG D b s ([.inr (9, [.ref (b + 1), .null, .int 0, .int 0, .int 0, .int 0]), .inl (tA 0, (24, .inl (fun _ => 0)))]) H2 lc2 := g
  refine lv_aload_n (i := 0) (x := b) X.1 X.2.1 dk9_12 rfl (lv_at hl 0 rfl) ?_
  refine lv_bipush (v := iN ((24 : Nat) : Int)) X.1 X.2.1 dk9_13 (by decide) ?_
  refine c_newa (n := 24) (t := 1) X (by simp) (by omega) g (by decide) (by decide) dk9_15 kw_0 kw_1 (fun H3 g => ?_)
  have g : CG D b s ([.inr (9, [.ref (b + 1), .null, .int 0, .int 0, .int 0, .int 0]), .inl (tA 0, (24, .inl (fun _ => 0))), .inl (tA 1, (24, .inl (fun _ => 0)))]) H3 lc2 := g
  refine c_put (k := 1) (ty := .array .boolean) (v := .ref (b + 2)) X (by decide) g (by decide) (by simp) kw_6 (fun _ => hin) rfl rfl rfl rfl dk9_17 (fun H4 lc4 g => ?_)
  have g : CG D b s ([.inr (9, [.ref (b + 1), .ref (b + 2), .int 0, .int 0, .int 0, .int 0]), .inl (tA 0, (24, .inl (fun _ => 0))), .inl (tA 1, (24, .inl (fun _ => 0)))]) H4 lc4 := g
  exact ct_ret X g dk9_20
set_option maxRecDepth 100000 in
theorem kw_7 : Cond.methodLink (Rn 3) 3 Lib.objectInit ∈ gW := gW_at (i := 514) rfl rfl
set_option maxRecDepth 100000 in
theorem kw_8 : Cond.fieldLink (Rn 3) 9 (Tc 3 0).1 (Tc 3 0).2.1 (Tc 3 0).2.2.1 ∈ gW := gW_at (i := 515) rfl rfl
set_option maxRecDepth 100000 in
theorem kw_9 : Cond.fieldLink (Rn 3) 15 (Tc 3 1).1 (Tc 3 1).2.1 (Tc 3 1).2.2.1 ∈ gW := gW_at (i := 516) rfl rfl
set_option maxRecDepth 100000 in
theorem kw_10 : Cond.fieldLink (Rn 3) 18 (Tc 3 2).1 (Tc 3 2).2.1 (Tc 3 2).2.2.1 ∈ gW := gW_at (i := 517) rfl rfl
set_option maxRecDepth 100000 in
theorem kw_11 : Cond.fieldLink (Rn 3) 21 (Tc 3 3).1 (Tc 3 3).2.1 (Tc 3 3).2.2.1 ∈ gW := gW_at (i := 518) rfl rfl
def Lf3 (tA : Nat → ClassId) (b : Nat) : List va_E := [.inr (3, [.ref (b + 1), .ref (b + 2), .ref (b + 3), .ref (b + 4), .int 0]), .inl (tA 0, (40, .inl (fun _ => 0))), .inl (tA 0, (40, .inl (fun _ => 0))), .inl (tA 0, (40, .inl (fun _ => 0))), .inl (tA 0, (40, .inl (fun _ => 0)))]
set_option maxRecDepth 100000 in
theorem dk3_0 : decode prog_5_method_1_code 0 = .ok (.aload_n 0, 1) := rfl
set_option maxRecDepth 100000 in
theorem dk3_1 : decode prog_5_method_1_code 1 = .ok (.invokespecial 3, 3) := rfl
set_option maxRecDepth 100000 in
theorem dk3_4 : decode prog_5_method_1_code 4 = .ok (.aload_n 0, 1) := rfl
set_option maxRecDepth 100000 in
theorem dk3_5 : decode prog_5_method_1_code 5 = .ok (.bipush 40, 2) := rfl
set_option maxRecDepth 100000 in
theorem dk3_7 : decode prog_5_method_1_code 7 = .ok (.newarray .int, 2) := rfl
set_option maxRecDepth 100000 in
theorem dk3_9 : decode prog_5_method_1_code 9 = .ok (.putfield 9, 3) := rfl
set_option maxRecDepth 100000 in
theorem dk3_12 : decode prog_5_method_1_code 12 = .ok (.aload_n 0, 1) := rfl
set_option maxRecDepth 100000 in
theorem dk3_13 : decode prog_5_method_1_code 13 = .ok (.bipush 40, 2) := rfl
set_option maxRecDepth 100000 in
theorem dk3_15 : decode prog_5_method_1_code 15 = .ok (.newarray .int, 2) := rfl
set_option maxRecDepth 100000 in
theorem dk3_17 : decode prog_5_method_1_code 17 = .ok (.putfield 15, 3) := rfl
set_option maxRecDepth 100000 in
theorem dk3_20 : decode prog_5_method_1_code 20 = .ok (.aload_n 0, 1) := rfl
set_option maxRecDepth 100000 in
theorem dk3_21 : decode prog_5_method_1_code 21 = .ok (.bipush 40, 2) := rfl
set_option maxRecDepth 100000 in
theorem dk3_23 : decode prog_5_method_1_code 23 = .ok (.newarray .int, 2) := rfl
set_option maxRecDepth 100000 in
theorem dk3_25 : decode prog_5_method_1_code 25 = .ok (.putfield 18, 3) := rfl
set_option maxRecDepth 100000 in
theorem dk3_28 : decode prog_5_method_1_code 28 = .ok (.aload_n 0, 1) := rfl
set_option maxRecDepth 100000 in
theorem dk3_29 : decode prog_5_method_1_code 29 = .ok (.bipush 40, 2) := rfl
set_option maxRecDepth 100000 in
theorem dk3_31 : decode prog_5_method_1_code 31 = .ok (.newarray .int, 2) := rfl
set_option maxRecDepth 100000 in
theorem dk3_33 : decode prog_5_method_1_code 33 = .ok (.putfield 21, 3) := rfl
set_option maxRecDepth 100000 in
theorem dk3_36 : decode prog_5_method_1_code 36 = .ok (.return_, 1) := rfl
set_option maxHeartbeats 4000000 in
set_option maxRecDepth 100000 in
theorem ct_3 : CtorC ⟨Rn 3, "<init>", "()V"⟩ prog_5_method_1_code 1 1 40 4 160 [] 3 Lf3 := by
  refine ct_of (by decide) rfl rfl (by decide) ?_
  intro p l e s m args below meth c D tA b ls X hin g hl
  rw [dfl_3] at g
  refine lv_aload_n (i := 0) (x := b) X.1 X.2.1 dk3_0 rfl (lv_at hl 0 rfl) ?_
  refine c_obj X kw_7 kw_2 kw_3 hl.1 (by decide) dk3_1 ?_
  refine lv_aload_n (i := 0) (x := b) X.1 X.2.1 dk3_4 rfl (lv_at hl 0 rfl) ?_
  refine lv_bipush (v := iN ((40 : Nat) : Int)) X.1 X.2.1 dk3_5 (by decide) ?_
  refine c_newa (n := 40) (t := 0) X (by simp) (by omega) g (by decide) (by decide) dk3_7 kw_0 kw_1 (fun H1 g => ?_)
  have g : CG D b s ([.inr (3, [.null, .null, .null, .null, .int 0]), .inl (tA 0, (40, .inl (fun _ => 0)))]) H1 [] := g
  refine c_put (k := 0) (ty := .array .int) (v := .ref (b + 1)) X (by decide) g (by decide) (by simp) kw_8 (fun _ => hin) rfl rfl rfl rfl dk3_9 (fun H2 lc2 g => ?_)
  have g : CG D b s ([.inr (3, [.ref (b + 1), .null, .null, .null, .int 0]), .inl (tA 0, (40, .inl (fun _ => 0)))]) H2 lc2 := g
  refine lv_aload_n (i := 0) (x := b) X.1 X.2.1 dk3_12 rfl (lv_at hl 0 rfl) ?_
  refine lv_bipush (v := iN ((40 : Nat) : Int)) X.1 X.2.1 dk3_13 (by decide) ?_
  refine c_newa (n := 40) (t := 0) X (by simp) (by omega) g (by decide) (by decide) dk3_15 kw_0 kw_1 (fun H3 g => ?_)
  have g : CG D b s ([.inr (3, [.ref (b + 1), .null, .null, .null, .int 0]), .inl (tA 0, (40, .inl (fun _ => 0))), .inl (tA 0, (40, .inl (fun _ => 0)))]) H3 lc2 := g
  refine c_put (k := 1) (ty := .array .int) (v := .ref (b + 2)) X (by decide) g (by decide) (by simp) kw_9 (fun _ => hin) rfl rfl rfl rfl dk3_17 (fun H4 lc4 g => ?_)
  have g : CG D b s ([.inr (3, [.ref (b + 1), .ref (b + 2), .null, .null, .int 0]), .inl (tA 0, (40, .inl (fun _ => 0))), .inl (tA 0, (40, .inl (fun _ => 0)))]) H4 lc4 := g
  refine lv_aload_n (i := 0) (x := b) X.1 X.2.1 dk3_20 rfl (lv_at hl 0 rfl) ?_
  refine lv_bipush (v := iN ((40 : Nat) : Int)) X.1 X.2.1 dk3_21 (by decide) ?_
  refine c_newa (n := 40) (t := 0) X (by simp) (by omega) g (by decide) (by decide) dk3_23 kw_0 kw_1 (fun H5 g => ?_)
  have g : CG D b s ([.inr (3, [.ref (b + 1), .ref (b + 2), .null, .null, .int 0]), .inl (tA 0, (40, .inl (fun _ => 0))), .inl (tA 0, (40, .inl (fun _ => 0))), .inl (tA 0, (40, .inl (fun _ => 0)))]) H5 lc4 := g
  refine c_put (k := 2) (ty := .array .int) (v := .ref (b + 3)) X (by decide) g (by decide) (by simp) kw_10 (fun _ => hin) rfl rfl rfl rfl dk3_25 (fun H6 lc6 g => ?_)
  have g : CG D b s ([.inr (3, [.ref (b + 1), .ref (b + 2), .ref (b + 3), .null, .int 0]), .inl (tA 0, (40, .inl (fun _ => 0))), .inl (tA 0, (40, .inl (fun _ => 0))), .inl (tA 0, (40, .inl (fun _ => 0)))]) H6 lc6 := g
  refine lv_aload_n (i := 0) (x := b) X.1 X.2.1 dk3_28 rfl (lv_at hl 0 rfl) ?_
  refine lv_bipush (v := iN ((40 : Nat) : Int)) X.1 X.2.1 dk3_29 (by decide) ?_
  refine c_newa (n := 40) (t := 0) X (by simp) (by omega) g (by decide) (by decide) dk3_31 kw_0 kw_1 (fun H7 g => ?_)
  have g : CG D b s ([.inr (3, [.ref (b + 1), .ref (b + 2), .ref (b + 3), .null, .int 0]), .inl (tA 0, (40, .inl (fun _ => 0))), .inl (tA 0, (40, .inl (fun _ => 0))), .inl (tA 0, (40, .inl (fun _ => 0))), .inl (tA 0, (40, .inl (fun _ => 0)))]) H7 lc6 := g
  refine c_put (k := 3) (ty := .array .int) (v := .ref (b + 4)) X (by decide) g (by decide) (by simp) kw_11 (fun _ => hin) rfl rfl rfl rfl dk3_33 (fun H8 lc8 g => ?_)
  have g : CG D b s ([.inr (3, [.ref (b + 1), .ref (b + 2), .ref (b + 3), .ref (b + 4), .int 0]), .inl (tA 0, (40, .inl (fun _ => 0))), .inl (tA 0, (40, .inl (fun _ => 0))), .inl (tA 0, (40, .inl (fun _ => 0))), .inl (tA 0, (40, .inl (fun _ => 0)))]) H8 lc8 := g
  exact ct_ret X g dk3_36
set_option maxRecDepth 100000 in
theorem kw_12 : Cond.methodLink (Rn 4) 3 Lib.objectInit ∈ gW := gW_at (i := 537) rfl rfl
set_option maxRecDepth 100000 in
theorem kw_13 : Cond.fieldLink (Rn 4) 9 (Tc 4 0).1 (Tc 4 0).2.1 (Tc 4 0).2.2.1 ∈ gW := gW_at (i := 538) rfl rfl
set_option maxRecDepth 100000 in
theorem kw_14 : Cond.fieldLink (Rn 4) 15 (Tc 4 1).1 (Tc 4 1).2.1 (Tc 4 1).2.2.1 ∈ gW := gW_at (i := 539) rfl rfl
def Lf4 (tA : Nat → ClassId) (b : Nat) : List va_E := [.inr (4, [.ref (b + 1), .ref (b + 2), .int 0]), .inl (tA 0, (8, .inl (fun _ => 0))), .inl (tA 0, (8, .inl (fun _ => 0)))]
set_option maxRecDepth 100000 in
theorem dk4_0 : decode prog_6_method_1_code 0 = .ok (.aload_n 0, 1) := rfl
set_option maxRecDepth 100000 in
theorem dk4_1 : decode prog_6_method_1_code 1 = .ok (.invokespecial 3, 3) := rfl
set_option maxRecDepth 100000 in
theorem dk4_4 : decode prog_6_method_1_code 4 = .ok (.aload_n 0, 1) := rfl
set_option maxRecDepth 100000 in
theorem dk4_5 : decode prog_6_method_1_code 5 = .ok (.bipush 8, 2) := rfl
set_option maxRecDepth 100000 in
theorem dk4_7 : decode prog_6_method_1_code 7 = .ok (.newarray .int, 2) := rfl
set_option maxRecDepth 100000 in
theorem dk4_9 : decode prog_6_method_1_code 9 = .ok (.putfield 9, 3) := rfl
set_option maxRecDepth 100000 in
theorem dk4_12 : decode prog_6_method_1_code 12 = .ok (.aload_n 0, 1) := rfl
set_option maxRecDepth 100000 in
theorem dk4_13 : decode prog_6_method_1_code 13 = .ok (.bipush 8, 2) := rfl
set_option maxRecDepth 100000 in
theorem dk4_15 : decode prog_6_method_1_code 15 = .ok (.newarray .int, 2) := rfl
set_option maxRecDepth 100000 in
theorem dk4_17 : decode prog_6_method_1_code 17 = .ok (.putfield 15, 3) := rfl
set_option maxRecDepth 100000 in
theorem dk4_20 : decode prog_6_method_1_code 20 = .ok (.return_, 1) := rfl
set_option maxHeartbeats 4000000 in
set_option maxRecDepth 100000 in
theorem ct_4 : CtorC ⟨Rn 4, "<init>", "()V"⟩ prog_6_method_1_code 1 1 40 2 16 [] 4 Lf4 := by
  refine ct_of (by decide) rfl rfl (by decide) ?_
  intro p l e s m args below meth c D tA b ls X hin g hl
  rw [dfl_4] at g
  refine lv_aload_n (i := 0) (x := b) X.1 X.2.1 dk4_0 rfl (lv_at hl 0 rfl) ?_
  refine c_obj X kw_12 kw_2 kw_3 hl.1 (by decide) dk4_1 ?_
  refine lv_aload_n (i := 0) (x := b) X.1 X.2.1 dk4_4 rfl (lv_at hl 0 rfl) ?_
  refine lv_bipush (v := iN ((8 : Nat) : Int)) X.1 X.2.1 dk4_5 (by decide) ?_
  refine c_newa (n := 8) (t := 0) X (by simp) (by omega) g (by decide) (by decide) dk4_7 kw_0 kw_1 (fun H1 g => ?_)
  have g : CG D b s ([.inr (4, [.null, .null, .int 0]), .inl (tA 0, (8, .inl (fun _ => 0)))]) H1 [] := g
  refine c_put (k := 0) (ty := .array .int) (v := .ref (b + 1)) X (by decide) g (by decide) (by simp) kw_13 (fun _ => hin) rfl rfl rfl rfl dk4_9 (fun H2 lc2 g => ?_)
  have g : CG D b s ([.inr (4, [.ref (b + 1), .null, .int 0]), .inl (tA 0, (8, .inl (fun _ => 0)))]) H2 lc2 := g
  refine lv_aload_n (i := 0) (x := b) X.1 X.2.1 dk4_12 rfl (lv_at hl 0 rfl) ?_
  refine lv_bipush (v := iN ((8 : Nat) : Int)) X.1 X.2.1 dk4_13 (by decide) ?_
  refine c_newa (n := 8) (t := 0) X (by simp) (by omega) g (by decide) (by decide) dk4_15 kw_0 kw_1 (fun H3 g => ?_)
  have g : CG D b s ([.inr (4, [.ref (b + 1), .null, .int 0]), .inl (tA 0, (8, .inl (fun _ => 0))), .inl (tA 0, (8, .inl (fun _ => 0)))]) H3 lc2 := g
  refine c_put (k := 1) (ty := .array .int) (v := .ref (b + 2)) X (by decide) g (by decide) (by simp) kw_14 (fun _ => hin) rfl rfl rfl rfl dk4_17 (fun H4 lc4 g => ?_)
  have g : CG D b s ([.inr (4, [.ref (b + 1), .ref (b + 2), .int 0]), .inl (tA 0, (8, .inl (fun _ => 0))), .inl (tA 0, (8, .inl (fun _ => 0)))]) H4 lc4 := g
  exact ct_ret X g dk4_20
set_option maxRecDepth 100000 in
theorem kw_15 : Cond.methodLink (Rn 2) 3 Lib.objectInit ∈ gW := gW_at (i := 448) rfl rfl
set_option maxRecDepth 100000 in
theorem kw_16 : Cond.fieldLink (Rn 2) 9 (Tc 2 0).1 (Tc 2 0).2.1 (Tc 2 0).2.2.1 ∈ gW := gW_at (i := 449) rfl rfl
set_option maxRecDepth 100000 in
theorem kw_17 : Cond.fieldLink (Rn 2) 15 (Tc 2 1).1 (Tc 2 1).2.1 (Tc 2 1).2.2.1 ∈ gW := gW_at (i := 450) rfl rfl
set_option maxRecDepth 100000 in
theorem kw_18 : Cond.fieldLink (Rn 2) 18 (Tc 2 2).1 (Tc 2 2).2.1 (Tc 2 2).2.2.1 ∈ gW := gW_at (i := 451) rfl rfl
set_option maxRecDepth 100000 in
theorem kw_19 : Cond.fieldLink (Rn 2) 21 (Tc 2 3).1 (Tc 2 3).2.1 (Tc 2 3).2.2.1 ∈ gW := gW_at (i := 452) rfl rfl
def Lf2 (tA : Nat → ClassId) (b : Nat) : List va_E := [.inr (2, [.ref (b + 1), .ref (b + 2), .ref (b + 3), .ref (b + 4), .int 0, .int 0, .int 0]), .inl (tA 0, (8, .inl (fun _ => 0))), .inl (tA 0, (8, .inl (fun _ => 0))), .inl (tA 0, (8, .inl (fun _ => 0))), .inl (tA 0, (8, .inl (fun _ => 0)))]
set_option maxRecDepth 100000 in
theorem dk2_0 : decode prog_4_method_1_code 0 = .ok (.aload_n 0, 1) := rfl
set_option maxRecDepth 100000 in
theorem dk2_1 : decode prog_4_method_1_code 1 = .ok (.invokespecial 3, 3) := rfl
set_option maxRecDepth 100000 in
theorem dk2_4 : decode prog_4_method_1_code 4 = .ok (.aload_n 0, 1) := rfl
set_option maxRecDepth 100000 in
theorem dk2_5 : decode prog_4_method_1_code 5 = .ok (.bipush 8, 2) := rfl
set_option maxRecDepth 100000 in
theorem dk2_7 : decode prog_4_method_1_code 7 = .ok (.newarray .int, 2) := rfl
set_option maxRecDepth 100000 in
theorem dk2_9 : decode prog_4_method_1_code 9 = .ok (.putfield 9, 3) := rfl
set_option maxRecDepth 100000 in
theorem dk2_12 : decode prog_4_method_1_code 12 = .ok (.aload_n 0, 1) := rfl
set_option maxRecDepth 100000 in
theorem dk2_13 : decode prog_4_method_1_code 13 = .ok (.bipush 8, 2) := rfl
set_option maxRecDepth 100000 in
theorem dk2_15 : decode prog_4_method_1_code 15 = .ok (.newarray .int, 2) := rfl
set_option maxRecDepth 100000 in
theorem dk2_17 : decode prog_4_method_1_code 17 = .ok (.putfield 15, 3) := rfl
set_option maxRecDepth 100000 in
theorem dk2_20 : decode prog_4_method_1_code 20 = .ok (.aload_n 0, 1) := rfl
set_option maxRecDepth 100000 in
theorem dk2_21 : decode prog_4_method_1_code 21 = .ok (.bipush 8, 2) := rfl
set_option maxRecDepth 100000 in
theorem dk2_23 : decode prog_4_method_1_code 23 = .ok (.newarray .int, 2) := rfl
set_option maxRecDepth 100000 in
theorem dk2_25 : decode prog_4_method_1_code 25 = .ok (.putfield 18, 3) := rfl
set_option maxRecDepth 100000 in
theorem dk2_28 : decode prog_4_method_1_code 28 = .ok (.aload_n 0, 1) := rfl
set_option maxRecDepth 100000 in
theorem dk2_29 : decode prog_4_method_1_code 29 = .ok (.bipush 8, 2) := rfl
set_option maxRecDepth 100000 in
theorem dk2_31 : decode prog_4_method_1_code 31 = .ok (.newarray .int, 2) := rfl
set_option maxRecDepth 100000 in
theorem dk2_33 : decode prog_4_method_1_code 33 = .ok (.putfield 21, 3) := rfl
set_option maxRecDepth 100000 in
theorem dk2_36 : decode prog_4_method_1_code 36 = .ok (.return_, 1) := rfl
set_option maxHeartbeats 4000000 in
set_option maxRecDepth 100000 in
theorem ct_2 : CtorC ⟨Rn 2, "<init>", "()V"⟩ prog_4_method_1_code 1 1 40 4 32 [] 2 Lf2 := by
  refine ct_of (by decide) rfl rfl (by decide) ?_
  intro p l e s m args below meth c D tA b ls X hin g hl
  rw [dfl_2] at g
  refine lv_aload_n (i := 0) (x := b) X.1 X.2.1 dk2_0 rfl (lv_at hl 0 rfl) ?_
  refine c_obj X kw_15 kw_2 kw_3 hl.1 (by decide) dk2_1 ?_
  refine lv_aload_n (i := 0) (x := b) X.1 X.2.1 dk2_4 rfl (lv_at hl 0 rfl) ?_
  refine lv_bipush (v := iN ((8 : Nat) : Int)) X.1 X.2.1 dk2_5 (by decide) ?_
  refine c_newa (n := 8) (t := 0) X (by simp) (by omega) g (by decide) (by decide) dk2_7 kw_0 kw_1 (fun H1 g => ?_)
  have g : CG D b s ([.inr (2, [.null, .null, .null, .null, .int 0, .int 0, .int 0]), .inl (tA 0, (8, .inl (fun _ => 0)))]) H1 [] := g
  refine c_put (k := 0) (ty := .array .int) (v := .ref (b + 1)) X (by decide) g (by decide) (by simp) kw_16 (fun _ => hin) rfl rfl rfl rfl dk2_9 (fun H2 lc2 g => ?_)
  have g : CG D b s ([.inr (2, [.ref (b + 1), .null, .null, .null, .int 0, .int 0, .int 0]), .inl (tA 0, (8, .inl (fun _ => 0)))]) H2 lc2 := g
  refine lv_aload_n (i := 0) (x := b) X.1 X.2.1 dk2_12 rfl (lv_at hl 0 rfl) ?_
  refine lv_bipush (v := iN ((8 : Nat) : Int)) X.1 X.2.1 dk2_13 (by decide) ?_
  refine c_newa (n := 8) (t := 0) X (by simp) (by omega) g (by decide) (by decide) dk2_15 kw_0 kw_1 (fun H3 g => ?_)
  have g : CG D b s ([.inr (2, [.ref (b + 1), .null, .null, .null, .int 0, .int 0, .int 0]), .inl (tA 0, (8, .inl (fun _ => 0))), .inl (tA 0, (8, .inl (fun _ => 0)))]) H3 lc2 := g
  refine c_put (k := 1) (ty := .array .int) (v := .ref (b + 2)) X (by decide) g (by decide) (by simp) kw_17 (fun _ => hin) rfl rfl rfl rfl dk2_17 (fun H4 lc4 g => ?_)
  have g : CG D b s ([.inr (2, [.ref (b + 1), .ref (b + 2), .null, .null, .int 0, .int 0, .int 0]), .inl (tA 0, (8, .inl (fun _ => 0))), .inl (tA 0, (8, .inl (fun _ => 0)))]) H4 lc4 := g
  refine lv_aload_n (i := 0) (x := b) X.1 X.2.1 dk2_20 rfl (lv_at hl 0 rfl) ?_
  refine lv_bipush (v := iN ((8 : Nat) : Int)) X.1 X.2.1 dk2_21 (by decide) ?_
  refine c_newa (n := 8) (t := 0) X (by simp) (by omega) g (by decide) (by decide) dk2_23 kw_0 kw_1 (fun H5 g => ?_)
  have g : CG D b s ([.inr (2, [.ref (b + 1), .ref (b + 2), .null, .null, .int 0, .int 0, .int 0]), .inl (tA 0, (8, .inl (fun _ => 0))), .inl (tA 0, (8, .inl (fun _ => 0))), .inl (tA 0, (8, .inl (fun _ => 0)))]) H5 lc4 := g
  refine c_put (k := 2) (ty := .array .int) (v := .ref (b + 3)) X (by decide) g (by decide) (by simp) kw_18 (fun _ => hin) rfl rfl rfl rfl dk2_25 (fun H6 lc6 g => ?_)
  have g : CG D b s ([.inr (2, [.ref (b + 1), .ref (b + 2), .ref (b + 3), .null, .int 0, .int 0, .int 0]), .inl (tA 0, (8, .inl (fun _ => 0))), .inl (tA 0, (8, .inl (fun _ => 0))), .inl (tA 0, (8, .inl (fun _ => 0)))]) H6 lc6 := g
  refine lv_aload_n (i := 0) (x := b) X.1 X.2.1 dk2_28 rfl (lv_at hl 0 rfl) ?_
  refine lv_bipush (v := iN ((8 : Nat) : Int)) X.1 X.2.1 dk2_29 (by decide) ?_
  refine c_newa (n := 8) (t := 0) X (by simp) (by omega) g (by decide) (by decide) dk2_31 kw_0 kw_1 (fun H7 g => ?_)
  have g : CG D b s ([.inr (2, [.ref (b + 1), .ref (b + 2), .ref (b + 3), .null, .int 0, .int 0, .int 0]), .inl (tA 0, (8, .inl (fun _ => 0))), .inl (tA 0, (8, .inl (fun _ => 0))), .inl (tA 0, (8, .inl (fun _ => 0))), .inl (tA 0, (8, .inl (fun _ => 0)))]) H7 lc6 := g
  refine c_put (k := 3) (ty := .array .int) (v := .ref (b + 4)) X (by decide) g (by decide) (by simp) kw_19 (fun _ => hin) rfl rfl rfl rfl dk2_33 (fun H8 lc8 g => ?_)
  have g : CG D b s ([.inr (2, [.ref (b + 1), .ref (b + 2), .ref (b + 3), .ref (b + 4), .int 0, .int 0, .int 0]), .inl (tA 0, (8, .inl (fun _ => 0))), .inl (tA 0, (8, .inl (fun _ => 0))), .inl (tA 0, (8, .inl (fun _ => 0))), .inl (tA 0, (8, .inl (fun _ => 0)))]) H8 lc8 := g
  exact ct_ret X g dk2_36
set_option maxRecDepth 100000 in
theorem kw_20 : Cond.methodLink (Rn 10) 3 Lib.objectInit ∈ gW := gW_at (i := 416) rfl rfl
set_option maxRecDepth 100000 in
theorem kw_21 : Cond.fieldLink (Rn 10) 9 (Tc 10 0).1 (Tc 10 0).2.1 (Tc 10 0).2.2.1 ∈ gW := gW_at (i := 417) rfl rfl
set_option maxRecDepth 100000 in
theorem kw_22 : Cond.fieldLink (Rn 10) 15 (Tc 10 1).1 (Tc 10 1).2.1 (Tc 10 1).2.2.1 ∈ gW := gW_at (i := 418) rfl rfl
set_option maxRecDepth 100000 in
theorem kw_23 : Cond.fieldLink (Rn 10) 18 (Tc 10 2).1 (Tc 10 2).2.1 (Tc 10 2).2.2.1 ∈ gW := gW_at (i := 419) rfl rfl
set_option maxRecDepth 100000 in
theorem kw_24 : Cond.fieldLink (Rn 10) 21 (Tc 10 3).1 (Tc 10 3).2.1 (Tc 10 3).2.2.1 ∈ gW := gW_at (i := 420) rfl rfl
set_option maxRecDepth 100000 in
theorem kw_25 : Cond.fieldLink (Rn 10) 24 (Tc 10 4).1 (Tc 10 4).2.1 (Tc 10 4).2.2.1 ∈ gW := gW_at (i := 421) rfl rfl
set_option maxRecDepth 100000 in
theorem kw_26 : Cond.fieldLink (Rn 10) 28 (Tc 10 5).1 (Tc 10 5).2.1 (Tc 10 5).2.2.1 ∈ gW := gW_at (i := 422) rfl rfl
set_option maxRecDepth 100000 in
theorem kw_27 : Cond.fieldLink (Rn 10) 31 (Tc 10 6).1 (Tc 10 6).2.1 (Tc 10 6).2.2.1 ∈ gW := gW_at (i := 423) rfl rfl
def Lf10 (tA : Nat → ClassId) (b : Nat) : List va_E := [.inr (10, [.ref (b + 1), .ref (b + 2), .ref (b + 3), .ref (b + 4), .ref (b + 5), .ref (b + 6), .ref (b + 7), .int 0]), .inl (tA 0, (28, .inl (fun _ => 0))), .inl (tA 0, (28, .inl (fun _ => 0))), .inl (tA 0, (28, .inl (fun _ => 0))), .inl (tA 0, (28, .inl (fun _ => 0))), .inl (tA 1, (28, .inl (fun _ => 0))), .inl (tA 0, (8, .inl (fun _ => 0))), .inl (tA 0, (8, .inl (fun _ => 0)))]
set_option maxRecDepth 100000 in
theorem dk10_0 : decode prog_12_method_1_code 0 = .ok (.aload_n 0, 1) := rfl
set_option maxRecDepth 100000 in
theorem dk10_1 : decode prog_12_method_1_code 1 = .ok (.invokespecial 3, 3) := rfl
set_option maxRecDepth 100000 in
theorem dk10_4 : decode prog_12_method_1_code 4 = .ok (.aload_n 0, 1) := rfl
set_option maxRecDepth 100000 in
theorem dk10_5 : decode prog_12_method_1_code 5 = .ok (.bipush 28, 2) := rfl
set_option maxRecDepth 100000 in
theorem dk10_7 : decode prog_12_method_1_code 7 = .ok (.newarray .int, 2) := rfl
set_option maxRecDepth 100000 in
theorem dk10_9 : decode prog_12_method_1_code 9 = .ok (.putfield 9, 3) := rfl
set_option maxRecDepth 100000 in
theorem dk10_12 : decode prog_12_method_1_code 12 = .ok (.aload_n 0, 1) := rfl
set_option maxRecDepth 100000 in
theorem dk10_13 : decode prog_12_method_1_code 13 = .ok (.bipush 28, 2) := rfl
set_option maxRecDepth 100000 in
theorem dk10_15 : decode prog_12_method_1_code 15 = .ok (.newarray .int, 2) := rfl
set_option maxRecDepth 100000 in
theorem dk10_17 : decode prog_12_method_1_code 17 = .ok (.putfield 15, 3) := rfl
set_option maxRecDepth 100000 in
theorem dk10_20 : decode prog_12_method_1_code 20 = .ok (.aload_n 0, 1) := rfl
set_option maxRecDepth 100000 in
theorem dk10_21 : decode prog_12_method_1_code 21 = .ok (.bipush 28, 2) := rfl
set_option maxRecDepth 100000 in
theorem dk10_23 : decode prog_12_method_1_code 23 = .ok (.newarray .int, 2) := rfl
set_option maxRecDepth 100000 in
theorem dk10_25 : decode prog_12_method_1_code 25 = .ok (.putfield 18, 3) := rfl
set_option maxRecDepth 100000 in
theorem dk10_28 : decode prog_12_method_1_code 28 = .ok (.aload_n 0, 1) := rfl
set_option maxRecDepth 100000 in
theorem dk10_29 : decode prog_12_method_1_code 29 = .ok (.bipush 28, 2) := rfl
set_option maxRecDepth 100000 in
theorem dk10_31 : decode prog_12_method_1_code 31 = .ok (.newarray .int, 2) := rfl
set_option maxRecDepth 100000 in
theorem dk10_33 : decode prog_12_method_1_code 33 = .ok (.putfield 21, 3) := rfl
set_option maxRecDepth 100000 in
theorem dk10_36 : decode prog_12_method_1_code 36 = .ok (.aload_n 0, 1) := rfl
set_option maxRecDepth 100000 in
theorem dk10_37 : decode prog_12_method_1_code 37 = .ok (.bipush 28, 2) := rfl
set_option maxRecDepth 100000 in
theorem dk10_39 : decode prog_12_method_1_code 39 = .ok (.newarray .boolean, 2) := rfl
set_option maxRecDepth 100000 in
theorem dk10_41 : decode prog_12_method_1_code 41 = .ok (.putfield 24, 3) := rfl
set_option maxRecDepth 100000 in
theorem dk10_44 : decode prog_12_method_1_code 44 = .ok (.aload_n 0, 1) := rfl
set_option maxRecDepth 100000 in
theorem dk10_45 : decode prog_12_method_1_code 45 = .ok (.bipush 8, 2) := rfl
set_option maxRecDepth 100000 in
theorem dk10_47 : decode prog_12_method_1_code 47 = .ok (.newarray .int, 2) := rfl
set_option maxRecDepth 100000 in
theorem dk10_49 : decode prog_12_method_1_code 49 = .ok (.putfield 28, 3) := rfl
set_option maxRecDepth 100000 in
theorem dk10_52 : decode prog_12_method_1_code 52 = .ok (.aload_n 0, 1) := rfl
set_option maxRecDepth 100000 in
theorem dk10_53 : decode prog_12_method_1_code 53 = .ok (.bipush 8, 2) := rfl
set_option maxRecDepth 100000 in
theorem dk10_55 : decode prog_12_method_1_code 55 = .ok (.newarray .int, 2) := rfl
set_option maxRecDepth 100000 in
theorem dk10_57 : decode prog_12_method_1_code 57 = .ok (.putfield 31, 3) := rfl
set_option maxRecDepth 100000 in
theorem dk10_60 : decode prog_12_method_1_code 60 = .ok (.return_, 1) := rfl
set_option maxHeartbeats 4000000 in
set_option maxRecDepth 100000 in
theorem ct_10 : CtorC ⟨Rn 10, "<init>", "()V"⟩ prog_12_method_1_code 1 1 40 7 156 [] 10 Lf10 := by
  refine ct_of (by decide) rfl rfl (by decide) ?_
  intro p l e s m args below meth c D tA b ls X hin g hl
  rw [dfl_10] at g
  refine lv_aload_n (i := 0) (x := b) X.1 X.2.1 dk10_0 rfl (lv_at hl 0 rfl) ?_
  refine c_obj X kw_20 kw_2 kw_3 hl.1 (by decide) dk10_1 ?_
  refine lv_aload_n (i := 0) (x := b) X.1 X.2.1 dk10_4 rfl (lv_at hl 0 rfl) ?_
  refine lv_bipush (v := iN ((28 : Nat) : Int)) X.1 X.2.1 dk10_5 (by decide) ?_
  refine c_newa (n := 28) (t := 0) X (by simp) (by omega) g (by decide) (by decide) dk10_7 kw_0 kw_1 (fun H1 g => ?_)
  have g : CG D b s ([.inr (10, [.null, .null, .null, .null, .null, .null, .null, .int 0]), .inl (tA 0, (28, .inl (fun _ => 0)))]) H1 [] := g
  refine c_put (k := 0) (ty := .array .int) (v := .ref (b + 1)) X (by decide) g (by decide) (by simp) kw_21 (fun _ => hin) rfl rfl rfl rfl dk10_9 (fun H2 lc2 g => ?_)
  have g : CG D b s ([.inr (10, [.ref (b + 1), .null, .null, .null, .null, .null, .null, .int 0]), .inl (tA 0, (28, .inl (fun _ => 0)))]) H2 lc2 := g
  refine lv_aload_n (i := 0) (x := b) X.1 X.2.1 dk10_12 rfl (lv_at hl 0 rfl) ?_
  refine lv_bipush (v := iN ((28 : Nat) : Int)) X.1 X.2.1 dk10_13 (by decide) ?_
  refine c_newa (n := 28) (t := 0) X (by simp) (by omega) g (by decide) (by decide) dk10_15 kw_0 kw_1 (fun H3 g => ?_)
  have g : CG D b s ([.inr (10, [.ref (b + 1), .null, .null, .null, .null, .null, .null, .int 0]), .inl (tA 0, (28, .inl (fun _ => 0))), .inl (tA 0, (28, .inl (fun _ => 0)))]) H3 lc2 := g
  refine c_put (k := 1) (ty := .array .int) (v := .ref (b + 2)) X (by decide) g (by decide) (by simp) kw_22 (fun _ => hin) rfl rfl rfl rfl dk10_17 (fun H4 lc4 g => ?_)
  have g : CG D b s ([.inr (10, [.ref (b + 1), .ref (b + 2), .null, .null, .null, .null, .null, .int 0]), .inl (tA 0, (28, .inl (fun _ => 0))), .inl (tA 0, (28, .inl (fun _ => 0)))]) H4 lc4 := g
  refine lv_aload_n (i := 0) (x := b) X.1 X.2.1 dk10_20 rfl (lv_at hl 0 rfl) ?_
  refine lv_bipush (v := iN ((28 : Nat) : Int)) X.1 X.2.1 dk10_21 (by decide) ?_
  refine c_newa (n := 28) (t := 0) X (by simp) (by omega) g (by decide) (by decide) dk10_23 kw_0 kw_1 (fun H5 g => ?_)
  have g : CG D b s ([.inr (10, [.ref (b + 1), .ref (b + 2), .null, .null, .null, .null, .null, .int 0]), .inl (tA 0, (28, .inl (fun _ => 0))), .inl (tA 0, (28, .inl (fun _ => 0))), .inl (tA 0, (28, .inl (fun _ => 0)))]) H5 lc4 := g
  refine c_put (k := 2) (ty := .array .int) (v := .ref (b + 3)) X (by decide) g (by decide) (by simp) kw_23 (fun _ => hin) rfl rfl rfl rfl dk10_25 (fun H6 lc6 g => ?_)
  have g : CG D b s ([.inr (10, [.ref (b + 1), .ref (b + 2), .ref (b + 3), .null, .null, .null, .null, .int 0]), .inl (tA 0, (28, .inl (fun _ => 0))), .inl (tA 0, (28, .inl (fun _ => 0))), .inl (tA 0, (28, .inl (fun _ => 0)))]) H6 lc6 := g
  refine lv_aload_n (i := 0) (x := b) X.1 X.2.1 dk10_28 rfl (lv_at hl 0 rfl) ?_
  refine lv_bipush (v := iN ((28 : Nat) : Int)) X.1 X.2.1 dk10_29 (by decide) ?_
  refine c_newa (n := 28) (t := 0) X (by simp) (by omega) g (by decide) (by decide) dk10_31 kw_0 kw_1 (fun H7 g => ?_)
  have g : CG D b s ([.inr (10, [.ref (b + 1), .ref (b + 2), .ref (b + 3), .null, .null, .null, .null, .int 0]), .inl (tA 0, (28, .inl (fun _ => 0))), .inl (tA 0, (28, .inl (fun _ => 0))), .inl (tA 0, (28, .inl (fun _ => 0))), .inl (tA 0, (28, .inl (fun _ => 0)))]) H7 lc6 := g
  refine c_put (k := 3) (ty := .array .int) (v := .ref (b + 4)) X (by decide) g (by decide) (by simp) kw_24 (fun _ => hin) rfl rfl rfl rfl dk10_33 (fun H8 lc8 g => ?_)
  have g : CG D b s ([.inr (10, [.ref (b + 1), .ref (b + 2), .ref (b + 3), .ref (b + 4), .null, .null, .null, .int 0]), .inl (tA 0, (28, .inl (fun _ => 0))), .inl (tA 0, (28, .inl (fun _ => 0))), .inl (tA 0, (28, .inl (fun _ => 0))), .inl (tA 0, (28, .inl (fun _ => 0)))]) H8 lc8 := g
  refine lv_aload_n (i := 0) (x := b) X.1 X.2.1 dk10_36 rfl (lv_at hl 0 rfl) ?_
  refine lv_bipush (v := iN ((28 : Nat) : Int)) X.1 X.2.1 dk10_37 (by decide) ?_
  refine c_newa (n := 28) (t := 1) X (by simp) (by omega) g (by decide) (by decide) dk10_39 kw_0 kw_1 (fun H9 g => ?_)
  have g : CG D b s ([.inr (10, [.ref (b + 1), .ref (b + 2), .ref (b + 3), .ref (b + 4), .null, .null, .null, .int 0]), .inl (tA 0, (28, .inl (fun _ => 0))), .inl (tA 0, (28, .inl (fun _ => 0))), .inl (tA 0, (28, .inl (fun _ => 0))), .inl (tA 0, (28, .inl (fun _ => 0))), .inl (tA 1, (28, .inl (fun _ => 0)))]) H9 lc8 := g
  refine c_put (k := 4) (ty := .array .boolean) (v := .ref (b + 5)) X (by decide) g (by decide) (by simp) kw_25 (fun _ => hin) rfl rfl rfl rfl dk10_41 (fun H10 lc10 g => ?_)
  have g : CG D b s ([.inr (10, [.ref (b + 1), .ref (b + 2), .ref (b + 3), .ref (b + 4), .ref (b + 5), .null, .null, .int 0]), .inl (tA 0, (28, .inl (fun _ => 0))), .inl (tA 0, (28, .inl (fun _ => 0))), .inl (tA 0, (28, .inl (fun _ => 0))), .inl (tA 0, (28, .inl (fun _ => 0))), .inl (tA 1, (28, .inl (fun _ => 0)))]) H10 lc10 := g
  refine lv_aload_n (i := 0) (x := b) X.1 X.2.1 dk10_44 rfl (lv_at hl 0 rfl) ?_
  refine lv_bipush (v := iN ((8 : Nat) : Int)) X.1 X.2.1 dk10_45 (by decide) ?_
  refine c_newa (n := 8) (t := 0) X (by simp) (by omega) g (by decide) (by decide) dk10_47 kw_0 kw_1 (fun H11 g => ?_)
  have g : CG D b s ([.inr (10, [.ref (b + 1), .ref (b + 2), .ref (b + 3), .ref (b + 4), .ref (b + 5), .null, .null, .int 0]), .inl (tA 0, (28, .inl (fun _ => 0))), .inl (tA 0, (28, .inl (fun _ => 0))), .inl (tA 0, (28, .inl (fun _ => 0))), .inl (tA 0, (28, .inl (fun _ => 0))), .inl (tA 1, (28, .inl (fun _ => 0))), .inl (tA 0, (8, .inl (fun _ => 0)))]) H11 lc10 := g
  refine c_put (k := 5) (ty := .array .int) (v := .ref (b + 6)) X (by decide) g (by decide) (by simp) kw_26 (fun _ => hin) rfl rfl rfl rfl dk10_49 (fun H12 lc12 g => ?_)
  have g : CG D b s ([.inr (10, [.ref (b + 1), .ref (b + 2), .ref (b + 3), .ref (b + 4), .ref (b + 5), .ref (b + 6), .null, .int 0]), .inl (tA 0, (28, .inl (fun _ => 0))), .inl (tA 0, (28, .inl (fun _ => 0))), .inl (tA 0, (28, .inl (fun _ => 0))), .inl (tA 0, (28, .inl (fun _ => 0))), .inl (tA 1, (28, .inl (fun _ => 0))), .inl (tA 0, (8, .inl (fun _ => 0)))]) H12 lc12 := g
  refine lv_aload_n (i := 0) (x := b) X.1 X.2.1 dk10_52 rfl (lv_at hl 0 rfl) ?_
  refine lv_bipush (v := iN ((8 : Nat) : Int)) X.1 X.2.1 dk10_53 (by decide) ?_
  refine c_newa (n := 8) (t := 0) X (by simp) (by omega) g (by decide) (by decide) dk10_55 kw_0 kw_1 (fun H13 g => ?_)
  have g : CG D b s ([.inr (10, [.ref (b + 1), .ref (b + 2), .ref (b + 3), .ref (b + 4), .ref (b + 5), .ref (b + 6), .null, .int 0]), .inl (tA 0, (28, .inl (fun _ => 0))), .inl (tA 0, (28, .inl (fun _ => 0))), .inl (tA 0, (28, .inl (fun _ => 0))), .inl (tA 0, (28, .inl (fun _ => 0))), .inl (tA 1, (28, .inl (fun _ => 0))), .inl (tA 0, (8, .inl (fun _ => 0))), .inl (tA 0, (8, .inl (fun _ => 0)))]) H13 lc12 := g
  refine c_put (k := 6) (ty := .array .int) (v := .ref (b + 7)) X (by decide) g (by decide) (by simp) kw_27 (fun _ => hin) rfl rfl rfl rfl dk10_57 (fun H14 lc14 g => ?_)
  have g : CG D b s ([.inr (10, [.ref (b + 1), .ref (b + 2), .ref (b + 3), .ref (b + 4), .ref (b + 5), .ref (b + 6), .ref (b + 7), .int 0]), .inl (tA 0, (28, .inl (fun _ => 0))), .inl (tA 0, (28, .inl (fun _ => 0))), .inl (tA 0, (28, .inl (fun _ => 0))), .inl (tA 0, (28, .inl (fun _ => 0))), .inl (tA 1, (28, .inl (fun _ => 0))), .inl (tA 0, (8, .inl (fun _ => 0))), .inl (tA 0, (8, .inl (fun _ => 0)))]) H14 lc14 := g
  exact ct_ret X g dk10_60
set_option maxRecDepth 100000 in
theorem kw_28 : Cond.methodLink (Rn 7) 3 Lib.objectInit ∈ gW := gW_at (i := 324) rfl rfl
def Lf7 (tA : Nat → ClassId) (b : Nat) : List va_E := [.inr (7, [.int 0, .int 0, .int 0, .int 0])]
set_option maxRecDepth 100000 in
theorem dk7_0 : decode prog_9_method_1_code 0 = .ok (.aload_n 0, 1) := rfl
set_option maxRecDepth 100000 in
theorem dk7_1 : decode prog_9_method_1_code 1 = .ok (.invokespecial 3, 3) := rfl
set_option maxRecDepth 100000 in
theorem dk7_4 : decode prog_9_method_1_code 4 = .ok (.return_, 1) := rfl
set_option maxHeartbeats 4000000 in
set_option maxRecDepth 100000 in
theorem ct_7 : CtorC ⟨Rn 7, "<init>", "()V"⟩ prog_9_method_1_code 1 1 40 0 0 [] 7 Lf7 := by
  refine ct_of (by decide) rfl rfl (by decide) ?_
  intro p l e s m args below meth c D tA b ls X hin g hl
  rw [dfl_7] at g
  refine lv_aload_n (i := 0) (x := b) X.1 X.2.1 dk7_0 rfl (lv_at hl 0 rfl) ?_
  refine c_obj X kw_28 kw_2 kw_3 hl.1 (by decide) dk7_1 ?_
  exact ct_ret X g dk7_4
set_option maxRecDepth 100000 in
theorem kw_29 : Cond.methodLink (Rn 1) 3 Lib.objectInit ∈ gW := gW_at (i := 349) rfl rfl
set_option maxRecDepth 100000 in
theorem kw_30 : Cond.classLink (Rn 1) 9 (Rn 7) ∈ gW := gW_at (i := 350) rfl rfl
set_option maxRecDepth 100000 in
theorem kw_31 : Cond.instantiable (Rn 7) (Nc 7) ∈ gW := gW_at (i := 320) rfl rfl
set_option maxRecDepth 100000 in
theorem kw_32 : Cond.initialized (Rn 7) ∈ gW := gW_at (i := 110) rfl rfl
set_option maxRecDepth 100000 in
theorem kw_33 : Cond.instanceMethod ⟨Rn 7, "<init>", "()V"⟩ ∈ gW := gW_at (i := 322) rfl rfl
set_option maxRecDepth 100000 in
theorem kw_34 : Cond.code ⟨Rn 7, "<init>", "()V"⟩ prog_9_method_1_code 1 none ∈ gW := gW_at (i := 323) rfl rfl
set_option maxRecDepth 100000 in
theorem kt_0 : Cond.methodLinkNest (Rn 1) 11 ⟨Rn 7, "<init>", "()V"⟩ "RingDater" ∈ lw_tbl := List.mem_of_getElem? (i := 351) rfl
set_option maxRecDepth 100000 in
theorem kw_35 : Cond.fieldLink (Rn 1) 12 (Tc 1 0).1 (Tc 1 0).2.1 (Tc 1 0).2.2.1 ∈ gW := gW_at (i := 352) rfl rfl
def Lf1 (tA : Nat → ClassId) (b : Nat) : List va_E := ([.inr (1, [.ref (b + 1), .int 0, .int 0, .int 0, .int 0, .int 0])]) ++ Lf7 tA (b + 1)
set_option maxRecDepth 100000 in
theorem dk1_0 : decode prog_3_method_1_code 0 = .ok (.aload_n 0, 1) := rfl
set_option maxRecDepth 100000 in
theorem dk1_1 : decode prog_3_method_1_code 1 = .ok (.invokespecial 3, 3) := rfl
set_option maxRecDepth 100000 in
theorem dk1_4 : decode prog_3_method_1_code 4 = .ok (.aload_n 0, 1) := rfl
set_option maxRecDepth 100000 in
theorem dk1_5 : decode prog_3_method_1_code 5 = .ok (.new 9, 3) := rfl
set_option maxRecDepth 100000 in
theorem dk1_8 : decode prog_3_method_1_code 8 = .ok (.dup, 1) := rfl
set_option maxRecDepth 100000 in
theorem dk1_9 : decode prog_3_method_1_code 9 = .ok (.invokespecial 11, 3) := rfl
set_option maxRecDepth 100000 in
theorem dk1_12 : decode prog_3_method_1_code 12 = .ok (.putfield 12, 3) := rfl
set_option maxRecDepth 100000 in
theorem dk1_15 : decode prog_3_method_1_code 15 = .ok (.return_, 1) := rfl
set_option maxHeartbeats 4000000 in
set_option maxRecDepth 100000 in
theorem ct_1 : CtorC ⟨Rn 1, "<init>", "()V"⟩ prog_3_method_1_code 1 2 80 1 4 [] 1 Lf1 := by
  refine ct_of (by decide) rfl rfl (by decide) ?_
  intro p l e s m args below meth c D tA b ls X hin g hl
  rw [dfl_1] at g
  refine lv_aload_n (i := 0) (x := b) X.1 X.2.1 dk1_0 rfl (lv_at hl 0 rfl) ?_
  refine c_obj X kw_29 kw_2 kw_3 hl.1 (by decide) dk1_1 ?_
  refine lv_aload_n (i := 0) (x := b) X.1 X.2.1 dk1_4 rfl (lv_at hl 0 rfl) ?_
  refine c_new (ci := 7) X (by decide) g kw_30 kw_31 kw_32 (by decide) (by decide) dk1_5 (fun H1 g => ?_)
  refine lv_dup X.1 X.2.1 dk1_8 rfl ?_
  refine c_callN (L := [.inr (1, [.null, .int 0, .int 0, .int 0, .int 0, .int 0])]) (rest := [.ref (b + 1), .ref b]) ct_7 X g kt_0 kw_32 kw_33 kw_34 rfl ⟨by decide, by decide, by decide⟩ ⟨by decide, by decide⟩ ⟨by decide, by decide⟩ hl.1 (by simp [Value.category]) rfl dk1_9 (fun H2 lc2 g => ?_)
  have g : CG D b s (([.inr (1, [.null, .int 0, .int 0, .int 0, .int 0, .int 0])]) ++ Lf7 tA (b + 1)) H2 lc2 := g
  refine c_put (k := 0) (ty := .object "RingDater$Slide") (v := .ref (b + 1)) X (by decide) g (by decide) (by simp) kw_35 (fun _ => hin) rfl rfl rfl rfl dk1_12 (fun H3 lc3 g => ?_)
  have g : CG D b s (([.inr (1, [.ref (b + 1), .int 0, .int 0, .int 0, .int 0, .int 0])]) ++ Lf7 tA (b + 1)) H3 lc3 := g
  exact ct_ret X g dk1_15
set_option maxRecDepth 100000 in
theorem kw_36 : Cond.methodLink (Rn 6) 3 Lib.objectInit ∈ gW := gW_at (i := 284) rfl rfl
set_option maxRecDepth 100000 in
theorem kw_37 : Cond.methodLink (Rn 6) 9 Lib.Math.min.name ∈ gW := gW_at (i := 285) rfl rfl
set_option maxRecDepth 100000 in
theorem kw_38 : Cond.static Lib.Math.min.name ∈ gW := gW_at (i := 286) rfl rfl
set_option maxRecDepth 100000 in
theorem kw_39 : Cond.initialized "java/lang/Math" ∈ gW := gW_at (i := 109) rfl rfl
set_option maxRecDepth 100000 in
theorem kw_40 : Cond.code Lib.Math.min.name Lib.Math.min.code 2 (some .int) ∈ gW := gW_at (i := 287) rfl rfl
set_option maxRecDepth 100000 in
theorem kw_41 : Cond.methodLink (Rn 6) 15 Lib.Math.max.name ∈ gW := gW_at (i := 288) rfl rfl
set_option maxRecDepth 100000 in
theorem kw_42 : Cond.static Lib.Math.max.name ∈ gW := gW_at (i := 289) rfl rfl
set_option maxRecDepth 100000 in
theorem kw_43 : Cond.code Lib.Math.max.name Lib.Math.max.code 2 (some .int) ∈ gW := gW_at (i := 290) rfl rfl
set_option maxRecDepth 100000 in
theorem kw_44 : Cond.fieldLink (Rn 6) 18 (Tc 6 0).1 (Tc 6 0).2.1 (Tc 6 0).2.2.1 ∈ gW := gW_at (i := 291) rfl rfl
set_option maxRecDepth 100000 in
theorem kw_45 : Cond.fieldLink (Rn 6) 24 (Tc 6 1).1 (Tc 6 1).2.1 (Tc 6 1).2.2.1 ∈ gW := gW_at (i := 292) rfl rfl
set_option maxRecDepth 100000 in
theorem kw_46 : Cond.fieldLink (Rn 6) 28 (Tc 6 2).1 (Tc 6 2).2.1 (Tc 6 2).2.2.1 ∈ gW := gW_at (i := 293) rfl rfl
set_option maxRecDepth 100000 in
theorem kw_47 : Cond.fieldLink (Rn 6) 32 (Tc 6 3).1 (Tc 6 3).2.1 (Tc 6 3).2.2.1 ∈ gW := gW_at (i := 294) rfl rfl
set_option maxRecDepth 100000 in
theorem kw_48 : Cond.fieldLink (Rn 6) 35 (Tc 6 4).1 (Tc 6 4).2.1 (Tc 6 4).2.2.1 ∈ gW := gW_at (i := 295) rfl rfl
set_option maxRecDepth 100000 in
theorem kw_49 : Cond.fieldLink (Rn 6) 38 (Tc 6 5).1 (Tc 6 5).2.1 (Tc 6 5).2.2.1 ∈ gW := gW_at (i := 296) rfl rfl
set_option maxRecDepth 100000 in
theorem kw_50 : Cond.fieldLink (Rn 6) 41 (Tc 6 6).1 (Tc 6 6).2.1 (Tc 6 6).2.2.1 ∈ gW := gW_at (i := 297) rfl rfl
def Lf6_24 (tA : Nat → ClassId) (b : Nat) : List va_E := [.inr (6, [.int (iN ((24 : Nat) : Int)), .ref (b + 1), .ref (b + 2), .ref (b + 3), .ref (b + 4), .ref (b + 5), .ref (b + 6), .int 0]), .inl (tA 0, (24, .inl (fun _ => 0))), .inl (tA 1, (24, .inl (fun _ => 0))), .inl (tA 1, (24, .inl (fun _ => 0))), .inl (tA 0, (24, .inl (fun _ => 0))), .inl (tA 0, (24, .inl (fun _ => 0))), .inl (tA 0, (25, .inl (fun _ => 0)))]
set_option maxRecDepth 100000 in
theorem dk6_24_0 : decode prog_8_method_1_code 0 = .ok (.aload_n 0, 1) := rfl
set_option maxRecDepth 100000 in
theorem dk6_24_1 : decode prog_8_method_1_code 1 = .ok (.invokespecial 3, 3) := rfl
set_option maxRecDepth 100000 in
theorem dk6_24_4 : decode prog_8_method_1_code 4 = .ok (.aload_n 0, 1) := rfl
set_option maxRecDepth 100000 in
theorem dk6_24_5 : decode prog_8_method_1_code 5 = .ok (.iconst 0, 1) := rfl
set_option maxRecDepth 100000 in
theorem dk6_24_6 : decode prog_8_method_1_code 6 = .ok (.iload_n 1, 1) := rfl
set_option maxRecDepth 100000 in
theorem dk6_24_7 : decode prog_8_method_1_code 7 = .ok (.sipush 924, 3) := rfl
set_option maxRecDepth 100000 in
theorem dk6_24_10 : decode prog_8_method_1_code 10 = .ok (.invokestatic 9, 3) := rfl
set_option maxRecDepth 100000 in
theorem dk6_24_13 : decode prog_8_method_1_code 13 = .ok (.invokestatic 15, 3) := rfl
set_option maxRecDepth 100000 in
theorem dk6_24_16 : decode prog_8_method_1_code 16 = .ok (.putfield 18, 3) := rfl
set_option maxRecDepth 100000 in
theorem dk6_24_19 : decode prog_8_method_1_code 19 = .ok (.aload_n 0, 1) := rfl
set_option maxRecDepth 100000 in
theorem dk6_24_20 : decode prog_8_method_1_code 20 = .ok (.aload_n 0, 1) := rfl
set_option maxRecDepth 100000 in
theorem dk6_24_21 : decode prog_8_method_1_code 21 = .ok (.getfield 18, 3) := rfl
set_option maxRecDepth 100000 in
theorem dk6_24_24 : decode prog_8_method_1_code 24 = .ok (.newarray .int, 2) := rfl
set_option maxRecDepth 100000 in
theorem dk6_24_26 : decode prog_8_method_1_code 26 = .ok (.putfield 24, 3) := rfl
set_option maxRecDepth 100000 in
theorem dk6_24_29 : decode prog_8_method_1_code 29 = .ok (.aload_n 0, 1) := rfl
set_option maxRecDepth 100000 in
theorem dk6_24_30 : decode prog_8_method_1_code 30 = .ok (.aload_n 0, 1) := rfl
set_option maxRecDepth 100000 in
theorem dk6_24_31 : decode prog_8_method_1_code 31 = .ok (.getfield 18, 3) := rfl
set_option maxRecDepth 100000 in
theorem dk6_24_34 : decode prog_8_method_1_code 34 = .ok (.newarray .boolean, 2) := rfl
set_option maxRecDepth 100000 in
theorem dk6_24_36 : decode prog_8_method_1_code 36 = .ok (.putfield 28, 3) := rfl
set_option maxRecDepth 100000 in
theorem dk6_24_39 : decode prog_8_method_1_code 39 = .ok (.aload_n 0, 1) := rfl
set_option maxRecDepth 100000 in
theorem dk6_24_40 : decode prog_8_method_1_code 40 = .ok (.aload_n 0, 1) := rfl
set_option maxRecDepth 100000 in
theorem dk6_24_41 : decode prog_8_method_1_code 41 = .ok (.getfield 18, 3) := rfl
set_option maxRecDepth 100000 in
theorem dk6_24_44 : decode prog_8_method_1_code 44 = .ok (.newarray .boolean, 2) := rfl
set_option maxRecDepth 100000 in
theorem dk6_24_46 : decode prog_8_method_1_code 46 = .ok (.putfield 32, 3) := rfl
set_option maxRecDepth 100000 in
theorem dk6_24_49 : decode prog_8_method_1_code 49 = .ok (.aload_n 0, 1) := rfl
set_option maxRecDepth 100000 in
theorem dk6_24_50 : decode prog_8_method_1_code 50 = .ok (.aload_n 0, 1) := rfl
set_option maxRecDepth 100000 in
theorem dk6_24_51 : decode prog_8_method_1_code 51 = .ok (.getfield 18, 3) := rfl
set_option maxRecDepth 100000 in
theorem dk6_24_54 : decode prog_8_method_1_code 54 = .ok (.newarray .int, 2) := rfl
set_option maxRecDepth 100000 in
theorem dk6_24_56 : decode prog_8_method_1_code 56 = .ok (.putfield 35, 3) := rfl
set_option maxRecDepth 100000 in
theorem dk6_24_59 : decode prog_8_method_1_code 59 = .ok (.aload_n 0, 1) := rfl
set_option maxRecDepth 100000 in
theorem dk6_24_60 : decode prog_8_method_1_code 60 = .ok (.aload_n 0, 1) := rfl
set_option maxRecDepth 100000 in
theorem dk6_24_61 : decode prog_8_method_1_code 61 = .ok (.getfield 18, 3) := rfl
set_option maxRecDepth 100000 in
theorem dk6_24_64 : decode prog_8_method_1_code 64 = .ok (.newarray .int, 2) := rfl
set_option maxRecDepth 100000 in
theorem dk6_24_66 : decode prog_8_method_1_code 66 = .ok (.putfield 38, 3) := rfl
set_option maxRecDepth 100000 in
theorem dk6_24_69 : decode prog_8_method_1_code 69 = .ok (.aload_n 0, 1) := rfl
set_option maxRecDepth 100000 in
theorem dk6_24_70 : decode prog_8_method_1_code 70 = .ok (.aload_n 0, 1) := rfl
set_option maxRecDepth 100000 in
theorem dk6_24_71 : decode prog_8_method_1_code 71 = .ok (.getfield 18, 3) := rfl
set_option maxRecDepth 100000 in
theorem dk6_24_74 : decode prog_8_method_1_code 74 = .ok (.iconst 1, 1) := rfl
set_option maxRecDepth 100000 in
theorem dk6_24_75 : decode prog_8_method_1_code 75 = .ok (.iadd, 1) := rfl
set_option maxRecDepth 100000 in
theorem dk6_24_76 : decode prog_8_method_1_code 76 = .ok (.newarray .int, 2) := rfl
set_option maxRecDepth 100000 in
theorem dk6_24_78 : decode prog_8_method_1_code 78 = .ok (.putfield 41, 3) := rfl
set_option maxRecDepth 100000 in
theorem dk6_24_81 : decode prog_8_method_1_code 81 = .ok (.return_, 1) := rfl
set_option maxHeartbeats 4000000 in
set_option maxRecDepth 100000 in
theorem ct_6_24 : CtorC ⟨Rn 6, "<init>", "(I)V"⟩ prog_8_method_1_code 2 1 40 6 145 [.int (iN ((24 : Nat) : Int))] 6 Lf6_24 := by
  refine ct_of (by decide) rfl rfl (by decide) ?_
  intro p l e s m args below meth c D tA b ls X hin g hl
  rw [dfl_6] at g
  refine lv_aload_n (i := 0) (x := b) X.1 X.2.1 dk6_24_0 rfl (lv_at hl 0 rfl) ?_
  refine c_obj X kw_36 kw_2 kw_3 hl.1 (by decide) dk6_24_1 ?_
  refine lv_aload_n (i := 0) (x := b) X.1 X.2.1 dk6_24_4 rfl (lv_at hl 0 rfl) ?_
  refine lv_iconst (v := iN ((0 : Nat) : Int)) X.1 X.2.1 dk6_24_5 (by decide) ?_
  refine lv_iload_n (i := 1) (x := iN ((24 : Nat) : Int)) X.1 X.2.1 dk6_24_6 rfl (lv_at hl 1 rfl) ?_
  refine lv_sipush (v := iN ((924 : Nat) : Int)) X.1 X.2.1 dk6_24_7 (by decide) ?_
  refine va_mmin X.1 X.2.1 (X.2.2.1.trans hl.1.symm) X.2.2.2.1 (X.2.2.2.2.1 _ kw_37) (X.2.2.2.2.1 _ kw_38) (X.2.2.2.2.1 _ kw_39) (X.2.2.2.2.1 _ kw_40) (by decide) (by simp [Value.category]) (Nat.zero_le _) (Nat.zero_le _) dk6_24_10 ?_
  rw [iN_min (x := ((24 : Nat) : Int)) (y := ((924 : Nat) : Int)) ⟨by omega, by omega⟩ ⟨by omega, by omega⟩, show min ((24 : Nat) : Int) ((924 : Nat) : Int) = ((24 : Nat) : Int) from by omega]
  refine va_mmax X.1 X.2.1 (X.2.2.1.trans hl.1.symm) X.2.2.2.1 (X.2.2.2.2.1 _ kw_41) (X.2.2.2.2.1 _ kw_42) (X.2.2.2.2.1 _ kw_39) (X.2.2.2.2.1 _ kw_43) (by decide) (by simp [Value.category]) (Nat.zero_le _) (Nat.zero_le _) dk6_24_13 ?_
  rw [iN_max (x := ((0 : Nat) : Int)) (y := ((24 : Nat) : Int)) ⟨by omega, by omega⟩ ⟨by omega, by omega⟩, show max ((0 : Nat) : Int) ((24 : Nat) : Int) = ((24 : Nat) : Int) from by omega]
  refine c_put (k := 0) (ty := .int) (v := .int (iN ((24 : Nat) : Int))) X (by decide) g (by decide) (by simp) kw_44 (fun _ => hin) rfl rfl rfl rfl dk6_24_16 (fun H1 lc1 g => ?_)
  have g : CG D b s ([.inr (6, [.int (iN ((24 : Nat) : Int)), .null, .null, .null, .null, .null, .null, .int 0])]) H1 lc1 := g
  refine lv_aload_n (i := 0) (x := b) X.1 X.2.1 dk6_24_19 rfl (lv_at hl 0 rfl) ?_
  refine lv_aload_n (i := 0) (x := b) X.1 X.2.1 dk6_24_20 rfl (lv_at hl 0 rfl) ?_
  refine c_get (k := 0) (v := .int (iN ((24 : Nat) : Int))) X (by decide) g (by decide) kw_44 rfl dk6_24_21 ?_
  refine c_newa (n := 24) (t := 0) X (by simp) (by omega) g (by decide) (by decide) dk6_24_24 kw_0 kw_1 (fun H2 g => ?_)
  have g : CG D b s ([.inr (6, [.int (iN ((24 : Nat) : Int)), .null, .null, .null, .null, .null, .null, .int 0]), .inl (tA 0, (24, .inl (fun _ => 0)))]) H2 lc1 := g
  refine c_put (k := 1) (ty := .array .int) (v := .ref (b + 1)) X (by decide) g (by decide) (by simp) kw_45 (fun _ => hin) rfl rfl rfl rfl dk6_24_26 (fun H3 lc3 g => ?_)
  have g : CG D b s ([.inr (6, [.int (iN ((24 : Nat) : Int)), .ref (b + 1), .null, .null, .null, .null, .null, .int 0]), .inl (tA 0, (24, .inl (fun _ => 0)))]) H3 lc3 := g
  refine lv_aload_n (i := 0) (x := b) X.1 X.2.1 dk6_24_29 rfl (lv_at hl 0 rfl) ?_
  refine lv_aload_n (i := 0) (x := b) X.1 X.2.1 dk6_24_30 rfl (lv_at hl 0 rfl) ?_
  refine c_get (k := 0) (v := .int (iN ((24 : Nat) : Int))) X (by decide) g (by decide) kw_44 rfl dk6_24_31 ?_
  refine c_newa (n := 24) (t := 1) X (by simp) (by omega) g (by decide) (by decide) dk6_24_34 kw_0 kw_1 (fun H4 g => ?_)
  have g : CG D b s ([.inr (6, [.int (iN ((24 : Nat) : Int)), .ref (b + 1), .null, .null, .null, .null, .null, .int 0]), .inl (tA 0, (24, .inl (fun _ => 0))), .inl (tA 1, (24, .inl (fun _ => 0)))]) H4 lc3 := g
  refine c_put (k := 2) (ty := .array .boolean) (v := .ref (b + 2)) X (by decide) g (by decide) (by simp) kw_46 (fun _ => hin) rfl rfl rfl rfl dk6_24_36 (fun H5 lc5 g => ?_)
  have g : CG D b s ([.inr (6, [.int (iN ((24 : Nat) : Int)), .ref (b + 1), .ref (b + 2), .null, .null, .null, .null, .int 0]), .inl (tA 0, (24, .inl (fun _ => 0))), .inl (tA 1, (24, .inl (fun _ => 0)))]) H5 lc5 := g
  refine lv_aload_n (i := 0) (x := b) X.1 X.2.1 dk6_24_39 rfl (lv_at hl 0 rfl) ?_
  refine lv_aload_n (i := 0) (x := b) X.1 X.2.1 dk6_24_40 rfl (lv_at hl 0 rfl) ?_
  refine c_get (k := 0) (v := .int (iN ((24 : Nat) : Int))) X (by decide) g (by decide) kw_44 rfl dk6_24_41 ?_
  refine c_newa (n := 24) (t := 1) X (by simp) (by omega) g (by decide) (by decide) dk6_24_44 kw_0 kw_1 (fun H6 g => ?_)
  have g : CG D b s ([.inr (6, [.int (iN ((24 : Nat) : Int)), .ref (b + 1), .ref (b + 2), .null, .null, .null, .null, .int 0]), .inl (tA 0, (24, .inl (fun _ => 0))), .inl (tA 1, (24, .inl (fun _ => 0))), .inl (tA 1, (24, .inl (fun _ => 0)))]) H6 lc5 := g
  refine c_put (k := 3) (ty := .array .boolean) (v := .ref (b + 3)) X (by decide) g (by decide) (by simp) kw_47 (fun _ => hin) rfl rfl rfl rfl dk6_24_46 (fun H7 lc7 g => ?_)
  have g : CG D b s ([.inr (6, [.int (iN ((24 : Nat) : Int)), .ref (b + 1), .ref (b + 2), .ref (b + 3), .null, .null, .null, .int 0]), .inl (tA 0, (24, .inl (fun _ => 0))), .inl (tA 1, (24, .inl (fun _ => 0))), .inl (tA 1, (24, .inl (fun _ => 0)))]) H7 lc7 := g
  refine lv_aload_n (i := 0) (x := b) X.1 X.2.1 dk6_24_49 rfl (lv_at hl 0 rfl) ?_
  refine lv_aload_n (i := 0) (x := b) X.1 X.2.1 dk6_24_50 rfl (lv_at hl 0 rfl) ?_
  refine c_get (k := 0) (v := .int (iN ((24 : Nat) : Int))) X (by decide) g (by decide) kw_44 rfl dk6_24_51 ?_
  refine c_newa (n := 24) (t := 0) X (by simp) (by omega) g (by decide) (by decide) dk6_24_54 kw_0 kw_1 (fun H8 g => ?_)
  have g : CG D b s ([.inr (6, [.int (iN ((24 : Nat) : Int)), .ref (b + 1), .ref (b + 2), .ref (b + 3), .null, .null, .null, .int 0]), .inl (tA 0, (24, .inl (fun _ => 0))), .inl (tA 1, (24, .inl (fun _ => 0))), .inl (tA 1, (24, .inl (fun _ => 0))), .inl (tA 0, (24, .inl (fun _ => 0)))]) H8 lc7 := g
  refine c_put (k := 4) (ty := .array .int) (v := .ref (b + 4)) X (by decide) g (by decide) (by simp) kw_48 (fun _ => hin) rfl rfl rfl rfl dk6_24_56 (fun H9 lc9 g => ?_)
  have g : CG D b s ([.inr (6, [.int (iN ((24 : Nat) : Int)), .ref (b + 1), .ref (b + 2), .ref (b + 3), .ref (b + 4), .null, .null, .int 0]), .inl (tA 0, (24, .inl (fun _ => 0))), .inl (tA 1, (24, .inl (fun _ => 0))), .inl (tA 1, (24, .inl (fun _ => 0))), .inl (tA 0, (24, .inl (fun _ => 0)))]) H9 lc9 := g
  refine lv_aload_n (i := 0) (x := b) X.1 X.2.1 dk6_24_59 rfl (lv_at hl 0 rfl) ?_
  refine lv_aload_n (i := 0) (x := b) X.1 X.2.1 dk6_24_60 rfl (lv_at hl 0 rfl) ?_
  refine c_get (k := 0) (v := .int (iN ((24 : Nat) : Int))) X (by decide) g (by decide) kw_44 rfl dk6_24_61 ?_
  refine c_newa (n := 24) (t := 0) X (by simp) (by omega) g (by decide) (by decide) dk6_24_64 kw_0 kw_1 (fun H10 g => ?_)
  have g : CG D b s ([.inr (6, [.int (iN ((24 : Nat) : Int)), .ref (b + 1), .ref (b + 2), .ref (b + 3), .ref (b + 4), .null, .null, .int 0]), .inl (tA 0, (24, .inl (fun _ => 0))), .inl (tA 1, (24, .inl (fun _ => 0))), .inl (tA 1, (24, .inl (fun _ => 0))), .inl (tA 0, (24, .inl (fun _ => 0))), .inl (tA 0, (24, .inl (fun _ => 0)))]) H10 lc9 := g
  refine c_put (k := 5) (ty := .array .int) (v := .ref (b + 5)) X (by decide) g (by decide) (by simp) kw_49 (fun _ => hin) rfl rfl rfl rfl dk6_24_66 (fun H11 lc11 g => ?_)
  have g : CG D b s ([.inr (6, [.int (iN ((24 : Nat) : Int)), .ref (b + 1), .ref (b + 2), .ref (b + 3), .ref (b + 4), .ref (b + 5), .null, .int 0]), .inl (tA 0, (24, .inl (fun _ => 0))), .inl (tA 1, (24, .inl (fun _ => 0))), .inl (tA 1, (24, .inl (fun _ => 0))), .inl (tA 0, (24, .inl (fun _ => 0))), .inl (tA 0, (24, .inl (fun _ => 0)))]) H11 lc11 := g
  refine lv_aload_n (i := 0) (x := b) X.1 X.2.1 dk6_24_69 rfl (lv_at hl 0 rfl) ?_
  refine lv_aload_n (i := 0) (x := b) X.1 X.2.1 dk6_24_70 rfl (lv_at hl 0 rfl) ?_
  refine c_get (k := 0) (v := .int (iN ((24 : Nat) : Int))) X (by decide) g (by decide) kw_44 rfl dk6_24_71 ?_
  refine lv_iconst (v := iN ((1 : Nat) : Int)) X.1 X.2.1 dk6_24_74 (by decide) ?_
  refine lv_iadd X.1 X.2.1 dk6_24_75 ?_
  rw [show iN ((24 : Nat) : Int) + iN ((1 : Nat) : Int) = iN ((25 : Nat) : Int) from by decide]
  refine c_newa (n := 25) (t := 0) X (by simp) (by omega) g (by decide) (by decide) dk6_24_76 kw_0 kw_1 (fun H12 g => ?_)
  have g : CG D b s ([.inr (6, [.int (iN ((24 : Nat) : Int)), .ref (b + 1), .ref (b + 2), .ref (b + 3), .ref (b + 4), .ref (b + 5), .null, .int 0]), .inl (tA 0, (24, .inl (fun _ => 0))), .inl (tA 1, (24, .inl (fun _ => 0))), .inl (tA 1, (24, .inl (fun _ => 0))), .inl (tA 0, (24, .inl (fun _ => 0))), .inl (tA 0, (24, .inl (fun _ => 0))), .inl (tA 0, (25, .inl (fun _ => 0)))]) H12 lc11 := g
  refine c_put (k := 6) (ty := .array .int) (v := .ref (b + 6)) X (by decide) g (by decide) (by simp) kw_50 (fun _ => hin) rfl rfl rfl rfl dk6_24_78 (fun H13 lc13 g => ?_)
  have g : CG D b s ([.inr (6, [.int (iN ((24 : Nat) : Int)), .ref (b + 1), .ref (b + 2), .ref (b + 3), .ref (b + 4), .ref (b + 5), .ref (b + 6), .int 0]), .inl (tA 0, (24, .inl (fun _ => 0))), .inl (tA 1, (24, .inl (fun _ => 0))), .inl (tA 1, (24, .inl (fun _ => 0))), .inl (tA 0, (24, .inl (fun _ => 0))), .inl (tA 0, (24, .inl (fun _ => 0))), .inl (tA 0, (25, .inl (fun _ => 0)))]) H13 lc13 := g
  exact ct_ret X g dk6_24_81
def Lf6_924 (tA : Nat → ClassId) (b : Nat) : List va_E := [.inr (6, [.int (iN ((924 : Nat) : Int)), .ref (b + 1), .ref (b + 2), .ref (b + 3), .ref (b + 4), .ref (b + 5), .ref (b + 6), .int 0]), .inl (tA 0, (924, .inl (fun _ => 0))), .inl (tA 1, (924, .inl (fun _ => 0))), .inl (tA 1, (924, .inl (fun _ => 0))), .inl (tA 0, (924, .inl (fun _ => 0))), .inl (tA 0, (924, .inl (fun _ => 0))), .inl (tA 0, (925, .inl (fun _ => 0)))]
set_option maxRecDepth 100000 in
theorem dk6_924_0 : decode prog_8_method_1_code 0 = .ok (.aload_n 0, 1) := rfl
set_option maxRecDepth 100000 in
theorem dk6_924_1 : decode prog_8_method_1_code 1 = .ok (.invokespecial 3, 3) := rfl
set_option maxRecDepth 100000 in
theorem dk6_924_4 : decode prog_8_method_1_code 4 = .ok (.aload_n 0, 1) := rfl
set_option maxRecDepth 100000 in
theorem dk6_924_5 : decode prog_8_method_1_code 5 = .ok (.iconst 0, 1) := rfl
set_option maxRecDepth 100000 in
theorem dk6_924_6 : decode prog_8_method_1_code 6 = .ok (.iload_n 1, 1) := rfl
set_option maxRecDepth 100000 in
theorem dk6_924_7 : decode prog_8_method_1_code 7 = .ok (.sipush 924, 3) := rfl
set_option maxRecDepth 100000 in
theorem dk6_924_10 : decode prog_8_method_1_code 10 = .ok (.invokestatic 9, 3) := rfl
set_option maxRecDepth 100000 in
theorem dk6_924_13 : decode prog_8_method_1_code 13 = .ok (.invokestatic 15, 3) := rfl
set_option maxRecDepth 100000 in
theorem dk6_924_16 : decode prog_8_method_1_code 16 = .ok (.putfield 18, 3) := rfl
set_option maxRecDepth 100000 in
theorem dk6_924_19 : decode prog_8_method_1_code 19 = .ok (.aload_n 0, 1) := rfl
set_option maxRecDepth 100000 in
theorem dk6_924_20 : decode prog_8_method_1_code 20 = .ok (.aload_n 0, 1) := rfl
set_option maxRecDepth 100000 in
theorem dk6_924_21 : decode prog_8_method_1_code 21 = .ok (.getfield 18, 3) := rfl
set_option maxRecDepth 100000 in
theorem dk6_924_24 : decode prog_8_method_1_code 24 = .ok (.newarray .int, 2) := rfl
set_option maxRecDepth 100000 in
theorem dk6_924_26 : decode prog_8_method_1_code 26 = .ok (.putfield 24, 3) := rfl
set_option maxRecDepth 100000 in
theorem dk6_924_29 : decode prog_8_method_1_code 29 = .ok (.aload_n 0, 1) := rfl
set_option maxRecDepth 100000 in
theorem dk6_924_30 : decode prog_8_method_1_code 30 = .ok (.aload_n 0, 1) := rfl
set_option maxRecDepth 100000 in
theorem dk6_924_31 : decode prog_8_method_1_code 31 = .ok (.getfield 18, 3) := rfl
set_option maxRecDepth 100000 in
theorem dk6_924_34 : decode prog_8_method_1_code 34 = .ok (.newarray .boolean, 2) := rfl
set_option maxRecDepth 100000 in
theorem dk6_924_36 : decode prog_8_method_1_code 36 = .ok (.putfield 28, 3) := rfl
set_option maxRecDepth 100000 in
theorem dk6_924_39 : decode prog_8_method_1_code 39 = .ok (.aload_n 0, 1) := rfl
set_option maxRecDepth 100000 in
theorem dk6_924_40 : decode prog_8_method_1_code 40 = .ok (.aload_n 0, 1) := rfl
set_option maxRecDepth 100000 in
theorem dk6_924_41 : decode prog_8_method_1_code 41 = .ok (.getfield 18, 3) := rfl
set_option maxRecDepth 100000 in
theorem dk6_924_44 : decode prog_8_method_1_code 44 = .ok (.newarray .boolean, 2) := rfl
set_option maxRecDepth 100000 in
theorem dk6_924_46 : decode prog_8_method_1_code 46 = .ok (.putfield 32, 3) := rfl
set_option maxRecDepth 100000 in
theorem dk6_924_49 : decode prog_8_method_1_code 49 = .ok (.aload_n 0, 1) := rfl
set_option maxRecDepth 100000 in
theorem dk6_924_50 : decode prog_8_method_1_code 50 = .ok (.aload_n 0, 1) := rfl
set_option maxRecDepth 100000 in
theorem dk6_924_51 : decode prog_8_method_1_code 51 = .ok (.getfield 18, 3) := rfl
set_option maxRecDepth 100000 in
theorem dk6_924_54 : decode prog_8_method_1_code 54 = .ok (.newarray .int, 2) := rfl
set_option maxRecDepth 100000 in
theorem dk6_924_56 : decode prog_8_method_1_code 56 = .ok (.putfield 35, 3) := rfl
set_option maxRecDepth 100000 in
theorem dk6_924_59 : decode prog_8_method_1_code 59 = .ok (.aload_n 0, 1) := rfl
set_option maxRecDepth 100000 in
theorem dk6_924_60 : decode prog_8_method_1_code 60 = .ok (.aload_n 0, 1) := rfl
set_option maxRecDepth 100000 in
theorem dk6_924_61 : decode prog_8_method_1_code 61 = .ok (.getfield 18, 3) := rfl
set_option maxRecDepth 100000 in
theorem dk6_924_64 : decode prog_8_method_1_code 64 = .ok (.newarray .int, 2) := rfl
set_option maxRecDepth 100000 in
theorem dk6_924_66 : decode prog_8_method_1_code 66 = .ok (.putfield 38, 3) := rfl
set_option maxRecDepth 100000 in
theorem dk6_924_69 : decode prog_8_method_1_code 69 = .ok (.aload_n 0, 1) := rfl
set_option maxRecDepth 100000 in
theorem dk6_924_70 : decode prog_8_method_1_code 70 = .ok (.aload_n 0, 1) := rfl
set_option maxRecDepth 100000 in
theorem dk6_924_71 : decode prog_8_method_1_code 71 = .ok (.getfield 18, 3) := rfl
set_option maxRecDepth 100000 in
theorem dk6_924_74 : decode prog_8_method_1_code 74 = .ok (.iconst 1, 1) := rfl
set_option maxRecDepth 100000 in
theorem dk6_924_75 : decode prog_8_method_1_code 75 = .ok (.iadd, 1) := rfl
set_option maxRecDepth 100000 in
theorem dk6_924_76 : decode prog_8_method_1_code 76 = .ok (.newarray .int, 2) := rfl
set_option maxRecDepth 100000 in
theorem dk6_924_78 : decode prog_8_method_1_code 78 = .ok (.putfield 41, 3) := rfl
set_option maxRecDepth 100000 in
theorem dk6_924_81 : decode prog_8_method_1_code 81 = .ok (.return_, 1) := rfl
set_option maxHeartbeats 4000000 in
set_option maxRecDepth 100000 in
theorem ct_6_924 : CtorC ⟨Rn 6, "<init>", "(I)V"⟩ prog_8_method_1_code 2 1 40 6 5545 [.int (iN ((924 : Nat) : Int))] 6 Lf6_924 := by
  refine ct_of (by decide) rfl rfl (by decide) ?_
  intro p l e s m args below meth c D tA b ls X hin g hl
  rw [dfl_6] at g
  refine lv_aload_n (i := 0) (x := b) X.1 X.2.1 dk6_924_0 rfl (lv_at hl 0 rfl) ?_
  refine c_obj X kw_36 kw_2 kw_3 hl.1 (by decide) dk6_924_1 ?_
  refine lv_aload_n (i := 0) (x := b) X.1 X.2.1 dk6_924_4 rfl (lv_at hl 0 rfl) ?_
  refine lv_iconst (v := iN ((0 : Nat) : Int)) X.1 X.2.1 dk6_924_5 (by decide) ?_
  refine lv_iload_n (i := 1) (x := iN ((924 : Nat) : Int)) X.1 X.2.1 dk6_924_6 rfl (lv_at hl 1 rfl) ?_
  refine lv_sipush (v := iN ((924 : Nat) : Int)) X.1 X.2.1 dk6_924_7 (by decide) ?_
  refine va_mmin X.1 X.2.1 (X.2.2.1.trans hl.1.symm) X.2.2.2.1 (X.2.2.2.2.1 _ kw_37) (X.2.2.2.2.1 _ kw_38) (X.2.2.2.2.1 _ kw_39) (X.2.2.2.2.1 _ kw_40) (by decide) (by simp [Value.category]) (Nat.zero_le _) (Nat.zero_le _) dk6_924_10 ?_
  rw [iN_min (x := ((924 : Nat) : Int)) (y := ((924 : Nat) : Int)) ⟨by omega, by omega⟩ ⟨by omega, by omega⟩, show min ((924 : Nat) : Int) ((924 : Nat) : Int) = ((924 : Nat) : Int) from by omega]
  refine va_mmax X.1 X.2.1 (X.2.2.1.trans hl.1.symm) X.2.2.2.1 (X.2.2.2.2.1 _ kw_41) (X.2.2.2.2.1 _ kw_42) (X.2.2.2.2.1 _ kw_39) (X.2.2.2.2.1 _ kw_43) (by decide) (by simp [Value.category]) (Nat.zero_le _) (Nat.zero_le _) dk6_924_13 ?_
  rw [iN_max (x := ((0 : Nat) : Int)) (y := ((924 : Nat) : Int)) ⟨by omega, by omega⟩ ⟨by omega, by omega⟩, show max ((0 : Nat) : Int) ((924 : Nat) : Int) = ((924 : Nat) : Int) from by omega]
  refine c_put (k := 0) (ty := .int) (v := .int (iN ((924 : Nat) : Int))) X (by decide) g (by decide) (by simp) kw_44 (fun _ => hin) rfl rfl rfl rfl dk6_924_16 (fun H1 lc1 g => ?_)
  have g : CG D b s ([.inr (6, [.int (iN ((924 : Nat) : Int)), .null, .null, .null, .null, .null, .null, .int 0])]) H1 lc1 := g
  refine lv_aload_n (i := 0) (x := b) X.1 X.2.1 dk6_924_19 rfl (lv_at hl 0 rfl) ?_
  refine lv_aload_n (i := 0) (x := b) X.1 X.2.1 dk6_924_20 rfl (lv_at hl 0 rfl) ?_
  refine c_get (k := 0) (v := .int (iN ((924 : Nat) : Int))) X (by decide) g (by decide) kw_44 rfl dk6_924_21 ?_
  refine c_newa (n := 924) (t := 0) X (by simp) (by omega) g (by decide) (by decide) dk6_924_24 kw_0 kw_1 (fun H2 g => ?_)
  have g : CG D b s ([.inr (6, [.int (iN ((924 : Nat) : Int)), .null, .null, .null, .null, .null, .null, .int 0]), .inl (tA 0, (924, .inl (fun _ => 0)))]) H2 lc1 := g
  refine c_put (k := 1) (ty := .array .int) (v := .ref (b + 1)) X (by decide) g (by decide) (by simp) kw_45 (fun _ => hin) rfl rfl rfl rfl dk6_924_26 (fun H3 lc3 g => ?_)
  have g : CG D b s ([.inr (6, [.int (iN ((924 : Nat) : Int)), .ref (b + 1), .null, .null, .null, .null, .null, .int 0]), .inl (tA 0, (924, .inl (fun _ => 0)))]) H3 lc3 := g
  refine lv_aload_n (i := 0) (x := b) X.1 X.2.1 dk6_924_29 rfl (lv_at hl 0 rfl) ?_
  refine lv_aload_n (i := 0) (x := b) X.1 X.2.1 dk6_924_30 rfl (lv_at hl 0 rfl) ?_
  refine c_get (k := 0) (v := .int (iN ((924 : Nat) : Int))) X (by decide) g (by decide) kw_44 rfl dk6_924_31 ?_
  refine c_newa (n := 924) (t := 1) X (by simp) (by omega) g (by decide) (by decide) dk6_924_34 kw_0 kw_1 (fun H4 g => ?_)
  have g : CG D b s ([.inr (6, [.int (iN ((924 : Nat) : Int)), .ref (b + 1), .null, .null, .null, .null, .null, .int 0]), .inl (tA 0, (924, .inl (fun _ => 0))), .inl (tA 1, (924, .inl (fun _ => 0)))]) H4 lc3 := g
  refine c_put (k := 2) (ty := .array .boolean) (v := .ref (b + 2)) X (by decide) g (by decide) (by simp) kw_46 (fun _ => hin) rfl rfl rfl rfl dk6_924_36 (fun H5 lc5 g => ?_)
  have g : CG D b s ([.inr (6, [.int (iN ((924 : Nat) : Int)), .ref (b + 1), .ref (b + 2), .null, .null, .null, .null, .int 0]), .inl (tA 0, (924, .inl (fun _ => 0))), .inl (tA 1, (924, .inl (fun _ => 0)))]) H5 lc5 := g
  refine lv_aload_n (i := 0) (x := b) X.1 X.2.1 dk6_924_39 rfl (lv_at hl 0 rfl) ?_
  refine lv_aload_n (i := 0) (x := b) X.1 X.2.1 dk6_924_40 rfl (lv_at hl 0 rfl) ?_
  refine c_get (k := 0) (v := .int (iN ((924 : Nat) : Int))) X (by decide) g (by decide) kw_44 rfl dk6_924_41 ?_
  refine c_newa (n := 924) (t := 1) X (by simp) (by omega) g (by decide) (by decide) dk6_924_44 kw_0 kw_1 (fun H6 g => ?_)
  have g : CG D b s ([.inr (6, [.int (iN ((924 : Nat) : Int)), .ref (b + 1), .ref (b + 2), .null, .null, .null, .null, .int 0]), .inl (tA 0, (924, .inl (fun _ => 0))), .inl (tA 1, (924, .inl (fun _ => 0))), .inl (tA 1, (924, .inl (fun _ => 0)))]) H6 lc5 := g
  refine c_put (k := 3) (ty := .array .boolean) (v := .ref (b + 3)) X (by decide) g (by decide) (by simp) kw_47 (fun _ => hin) rfl rfl rfl rfl dk6_924_46 (fun H7 lc7 g => ?_)
  have g : CG D b s ([.inr (6, [.int (iN ((924 : Nat) : Int)), .ref (b + 1), .ref (b + 2), .ref (b + 3), .null, .null, .null, .int 0]), .inl (tA 0, (924, .inl (fun _ => 0))), .inl (tA 1, (924, .inl (fun _ => 0))), .inl (tA 1, (924, .inl (fun _ => 0)))]) H7 lc7 := g
  refine lv_aload_n (i := 0) (x := b) X.1 X.2.1 dk6_924_49 rfl (lv_at hl 0 rfl) ?_
  refine lv_aload_n (i := 0) (x := b) X.1 X.2.1 dk6_924_50 rfl (lv_at hl 0 rfl) ?_
  refine c_get (k := 0) (v := .int (iN ((924 : Nat) : Int))) X (by decide) g (by decide) kw_44 rfl dk6_924_51 ?_
  refine c_newa (n := 924) (t := 0) X (by simp) (by omega) g (by decide) (by decide) dk6_924_54 kw_0 kw_1 (fun H8 g => ?_)
  have g : CG D b s ([.inr (6, [.int (iN ((924 : Nat) : Int)), .ref (b + 1), .ref (b + 2), .ref (b + 3), .null, .null, .null, .int 0]), .inl (tA 0, (924, .inl (fun _ => 0))), .inl (tA 1, (924, .inl (fun _ => 0))), .inl (tA 1, (924, .inl (fun _ => 0))), .inl (tA 0, (924, .inl (fun _ => 0)))]) H8 lc7 := g
  refine c_put (k := 4) (ty := .array .int) (v := .ref (b + 4)) X (by decide) g (by decide) (by simp) kw_48 (fun _ => hin) rfl rfl rfl rfl dk6_924_56 (fun H9 lc9 g => ?_)
  have g : CG D b s ([.inr (6, [.int (iN ((924 : Nat) : Int)), .ref (b + 1), .ref (b + 2), .ref (b + 3), .ref (b + 4), .null, .null, .int 0]), .inl (tA 0, (924, .inl (fun _ => 0))), .inl (tA 1, (924, .inl (fun _ => 0))), .inl (tA 1, (924, .inl (fun _ => 0))), .inl (tA 0, (924, .inl (fun _ => 0)))]) H9 lc9 := g
  refine lv_aload_n (i := 0) (x := b) X.1 X.2.1 dk6_924_59 rfl (lv_at hl 0 rfl) ?_
  refine lv_aload_n (i := 0) (x := b) X.1 X.2.1 dk6_924_60 rfl (lv_at hl 0 rfl) ?_
  refine c_get (k := 0) (v := .int (iN ((924 : Nat) : Int))) X (by decide) g (by decide) kw_44 rfl dk6_924_61 ?_
  refine c_newa (n := 924) (t := 0) X (by simp) (by omega) g (by decide) (by decide) dk6_924_64 kw_0 kw_1 (fun H10 g => ?_)
  have g : CG D b s ([.inr (6, [.int (iN ((924 : Nat) : Int)), .ref (b + 1), .ref (b + 2), .ref (b + 3), .ref (b + 4), .null, .null, .int 0]), .inl (tA 0, (924, .inl (fun _ => 0))), .inl (tA 1, (924, .inl (fun _ => 0))), .inl (tA 1, (924, .inl (fun _ => 0))), .inl (tA 0, (924, .inl (fun _ => 0))), .inl (tA 0, (924, .inl (fun _ => 0)))]) H10 lc9 := g
  refine c_put (k := 5) (ty := .array .int) (v := .ref (b + 5)) X (by decide) g (by decide) (by simp) kw_49 (fun _ => hin) rfl rfl rfl rfl dk6_924_66 (fun H11 lc11 g => ?_)
  have g : CG D b s ([.inr (6, [.int (iN ((924 : Nat) : Int)), .ref (b + 1), .ref (b + 2), .ref (b + 3), .ref (b + 4), .ref (b + 5), .null, .int 0]), .inl (tA 0, (924, .inl (fun _ => 0))), .inl (tA 1, (924, .inl (fun _ => 0))), .inl (tA 1, (924, .inl (fun _ => 0))), .inl (tA 0, (924, .inl (fun _ => 0))), .inl (tA 0, (924, .inl (fun _ => 0)))]) H11 lc11 := g
  refine lv_aload_n (i := 0) (x := b) X.1 X.2.1 dk6_924_69 rfl (lv_at hl 0 rfl) ?_
  refine lv_aload_n (i := 0) (x := b) X.1 X.2.1 dk6_924_70 rfl (lv_at hl 0 rfl) ?_
  refine c_get (k := 0) (v := .int (iN ((924 : Nat) : Int))) X (by decide) g (by decide) kw_44 rfl dk6_924_71 ?_
  refine lv_iconst (v := iN ((1 : Nat) : Int)) X.1 X.2.1 dk6_924_74 (by decide) ?_
  refine lv_iadd X.1 X.2.1 dk6_924_75 ?_
  rw [show iN ((924 : Nat) : Int) + iN ((1 : Nat) : Int) = iN ((925 : Nat) : Int) from by decide]
  refine c_newa (n := 925) (t := 0) X (by simp) (by omega) g (by decide) (by decide) dk6_924_76 kw_0 kw_1 (fun H12 g => ?_)
  have g : CG D b s ([.inr (6, [.int (iN ((924 : Nat) : Int)), .ref (b + 1), .ref (b + 2), .ref (b + 3), .ref (b + 4), .ref (b + 5), .null, .int 0]), .inl (tA 0, (924, .inl (fun _ => 0))), .inl (tA 1, (924, .inl (fun _ => 0))), .inl (tA 1, (924, .inl (fun _ => 0))), .inl (tA 0, (924, .inl (fun _ => 0))), .inl (tA 0, (924, .inl (fun _ => 0))), .inl (tA 0, (925, .inl (fun _ => 0)))]) H12 lc11 := g
  refine c_put (k := 6) (ty := .array .int) (v := .ref (b + 6)) X (by decide) g (by decide) (by simp) kw_50 (fun _ => hin) rfl rfl rfl rfl dk6_924_78 (fun H13 lc13 g => ?_)
  have g : CG D b s ([.inr (6, [.int (iN ((924 : Nat) : Int)), .ref (b + 1), .ref (b + 2), .ref (b + 3), .ref (b + 4), .ref (b + 5), .ref (b + 6), .int 0]), .inl (tA 0, (924, .inl (fun _ => 0))), .inl (tA 1, (924, .inl (fun _ => 0))), .inl (tA 1, (924, .inl (fun _ => 0))), .inl (tA 0, (924, .inl (fun _ => 0))), .inl (tA 0, (924, .inl (fun _ => 0))), .inl (tA 0, (925, .inl (fun _ => 0)))]) H13 lc13 := g
  exact ct_ret X g dk6_924_81
set_option maxRecDepth 100000 in
theorem kw_51 : Cond.methodLink (Rn 0) 3 Lib.objectInit ∈ gW := gW_at (i := 278) rfl rfl
set_option maxRecDepth 100000 in
theorem kw_52 : Cond.classLink (Rn 0) 9 (Rn 6) ∈ gW := gW_at (i := 279) rfl rfl
set_option maxRecDepth 100000 in
theorem kw_53 : Cond.instantiable (Rn 6) (Nc 6) ∈ gW := gW_at (i := 280) rfl rfl
set_option maxRecDepth 100000 in
theorem kw_54 : Cond.initialized (Rn 6) ∈ gW := gW_at (i := 108) rfl rfl
set_option maxRecDepth 100000 in
theorem kw_55 : Cond.instanceMethod ⟨Rn 6, "<init>", "(I)V"⟩ ∈ gW := gW_at (i := 282) rfl rfl
set_option maxRecDepth 100000 in
theorem kw_56 : Cond.code ⟨Rn 6, "<init>", "(I)V"⟩ prog_8_method_1_code 2 none ∈ gW := gW_at (i := 283) rfl rfl
set_option maxRecDepth 100000 in
theorem kw_57 : Cond.methodLink (Rn 0) 11 ⟨Rn 6, "<init>", "(I)V"⟩ ∈ gW := gW_at (i := 281) rfl rfl
set_option maxRecDepth 100000 in
theorem kw_58 : Cond.fieldLink (Rn 0) 14 (Tc 0 0).1 (Tc 0 0).2.1 (Tc 0 0).2.2.1 ∈ gW := gW_at (i := 380) rfl rfl
set_option maxRecDepth 100000 in
theorem kw_59 : Cond.fieldLink (Rn 0) 20 (Tc 0 1).1 (Tc 0 1).2.1 (Tc 0 1).2.2.1 ∈ gW := gW_at (i := 381) rfl rfl
set_option maxRecDepth 100000 in
theorem kw_60 : Cond.fieldLink (Rn 0) 23 (Tc 0 2).1 (Tc 0 2).2.1 (Tc 0 2).2.2.1 ∈ gW := gW_at (i := 382) rfl rfl
set_option maxRecDepth 100000 in
theorem kw_61 : Cond.fieldLink (Rn 0) 26 (Tc 0 3).1 (Tc 0 3).2.1 (Tc 0 3).2.2.1 ∈ gW := gW_at (i := 383) rfl rfl
set_option maxRecDepth 100000 in
theorem kw_62 : Cond.fieldLink (Rn 0) 30 (Tc 0 4).1 (Tc 0 4).2.1 (Tc 0 4).2.2.1 ∈ gW := gW_at (i := 384) rfl rfl
set_option maxRecDepth 100000 in
theorem kw_63 : Cond.classLink (Rn 0) 33 (Rn 7) ∈ gW := gW_at (i := 319) rfl rfl
set_option maxRecDepth 100000 in
theorem kt_1 : Cond.methodLinkNest (Rn 0) 35 ⟨Rn 7, "<init>", "()V"⟩ "RingDater" ∈ lw_tbl := List.mem_of_getElem? (i := 321) rfl
set_option maxRecDepth 100000 in
theorem kw_64 : Cond.fieldLink (Rn 0) 36 (Tc 0 5).1 (Tc 0 5).2.1 (Tc 0 5).2.2.1 ∈ gW := gW_at (i := 385) rfl rfl
set_option maxRecDepth 100000 in
theorem kw_65 : Cond.classLink (Rn 0) 40 (Rn 1) ∈ gW := gW_at (i := 344) rfl rfl
set_option maxRecDepth 100000 in
theorem kw_66 : Cond.instantiable (Rn 1) (Nc 1) ∈ gW := gW_at (i := 345) rfl rfl
set_option maxRecDepth 100000 in
theorem kw_67 : Cond.initialized (Rn 1) ∈ gW := gW_at (i := 111) rfl rfl
set_option maxRecDepth 100000 in
theorem kw_68 : Cond.instanceMethod ⟨Rn 1, "<init>", "()V"⟩ ∈ gW := gW_at (i := 347) rfl rfl
set_option maxRecDepth 100000 in
theorem kw_69 : Cond.code ⟨Rn 1, "<init>", "()V"⟩ prog_3_method_1_code 1 none ∈ gW := gW_at (i := 348) rfl rfl
set_option maxRecDepth 100000 in
theorem kt_2 : Cond.methodLinkNest (Rn 0) 42 ⟨Rn 1, "<init>", "()V"⟩ "RingDater" ∈ lw_tbl := List.mem_of_getElem? (i := 346) rfl
set_option maxRecDepth 100000 in
theorem kw_70 : Cond.fieldLink (Rn 0) 43 (Tc 0 6).1 (Tc 0 6).2.1 (Tc 0 6).2.2.1 ∈ gW := gW_at (i := 386) rfl rfl
set_option maxRecDepth 100000 in
theorem kw_71 : Cond.fieldLink (Rn 0) 47 (Tc 0 7).1 (Tc 0 7).2.1 (Tc 0 7).2.2.1 ∈ gW := gW_at (i := 387) rfl rfl
set_option maxRecDepth 100000 in
theorem kw_72 : Cond.fieldLink (Rn 0) 51 (Tc 0 8).1 (Tc 0 8).2.1 (Tc 0 8).2.2.1 ∈ gW := gW_at (i := 390) rfl rfl
def Lf0 (tA : Nat → ClassId) (b : Nat) : List va_E := (((((([.inr (0, [.ref (b + 1), .ref (b + 8), .ref (b + 15), .ref (b + 22), .ref (b + 23), .ref (b + 24), .ref (b + 25), .int (iN (-1)), .int (iN (-1))])]) ++ Lf6_24 tA (b + 1)) ++ Lf6_24 tA (b + 8)) ++ Lf6_924 tA (b + 15)) ++ [.inl (tA 0, (924, .inl (fun _ => 0))), .inl (tA 0, (924, .inl (fun _ => 0)))]) ++ Lf7 tA (b + 24)) ++ Lf1 tA (b + 25)
set_option maxRecDepth 100000 in
theorem dk0_0 : decode prog_2_method_1_code 0 = .ok (.aload_n 0, 1) := rfl
set_option maxRecDepth 100000 in
theorem dk0_1 : decode prog_2_method_1_code 1 = .ok (.invokespecial 3, 3) := rfl
set_option maxRecDepth 100000 in
theorem dk0_4 : decode prog_2_method_1_code 4 = .ok (.aload_n 0, 1) := rfl
set_option maxRecDepth 100000 in
theorem dk0_5 : decode prog_2_method_1_code 5 = .ok (.new 9, 3) := rfl
set_option maxRecDepth 100000 in
theorem dk0_8 : decode prog_2_method_1_code 8 = .ok (.dup, 1) := rfl
set_option maxRecDepth 100000 in
theorem dk0_9 : decode prog_2_method_1_code 9 = .ok (.bipush 24, 2) := rfl
set_option maxRecDepth 100000 in
theorem dk0_11 : decode prog_2_method_1_code 11 = .ok (.invokespecial 11, 3) := rfl
set_option maxRecDepth 100000 in
theorem dk0_14 : decode prog_2_method_1_code 14 = .ok (.putfield 14, 3) := rfl
set_option maxRecDepth 100000 in
theorem dk0_17 : decode prog_2_method_1_code 17 = .ok (.aload_n 0, 1) := rfl
set_option maxRecDepth 100000 in
theorem dk0_18 : decode prog_2_method_1_code 18 = .ok (.new 9, 3) := rfl
set_option maxRecDepth 100000 in
theorem dk0_21 : decode prog_2_method_1_code 21 = .ok (.dup, 1) := rfl
set_option maxRecDepth 100000 in
theorem dk0_22 : decode prog_2_method_1_code 22 = .ok (.bipush 24, 2) := rfl
set_option maxRecDepth 100000 in
theorem dk0_24 : decode prog_2_method_1_code 24 = .ok (.invokespecial 11, 3) := rfl
set_option maxRecDepth 100000 in
theorem dk0_27 : decode prog_2_method_1_code 27 = .ok (.putfield 20, 3) := rfl
set_option maxRecDepth 100000 in
theorem dk0_30 : decode prog_2_method_1_code 30 = .ok (.aload_n 0, 1) := rfl
set_option maxRecDepth 100000 in
theorem dk0_31 : decode prog_2_method_1_code 31 = .ok (.new 9, 3) := rfl
set_option maxRecDepth 100000 in
theorem dk0_34 : decode prog_2_method_1_code 34 = .ok (.dup, 1) := rfl
set_option maxRecDepth 100000 in
theorem dk0_35 : decode prog_2_method_1_code 35 = .ok (.sipush 924, 3) := rfl
set_option maxRecDepth 100000 in
theorem dk0_38 : decode prog_2_method_1_code 38 = .ok (.invokespecial 11, 3) := rfl
set_option maxRecDepth 100000 in
theorem dk0_41 : decode prog_2_method_1_code 41 = .ok (.putfield 23, 3) := rfl
set_option maxRecDepth 100000 in
theorem dk0_44 : decode prog_2_method_1_code 44 = .ok (.aload_n 0, 1) := rfl
set_option maxRecDepth 100000 in
theorem dk0_45 : decode prog_2_method_1_code 45 = .ok (.sipush 924, 3) := rfl
set_option maxRecDepth 100000 in
theorem dk0_48 : decode prog_2_method_1_code 48 = .ok (.newarray .int, 2) := rfl
set_option maxRecDepth 100000 in
theorem dk0_50 : decode prog_2_method_1_code 50 = .ok (.putfield 26, 3) := rfl
set_option maxRecDepth 100000 in
theorem dk0_53 : decode prog_2_method_1_code 53 = .ok (.aload_n 0, 1) := rfl
set_option maxRecDepth 100000 in
theorem dk0_54 : decode prog_2_method_1_code 54 = .ok (.sipush 924, 3) := rfl
set_option maxRecDepth 100000 in
theorem dk0_57 : decode prog_2_method_1_code 57 = .ok (.newarray .int, 2) := rfl
set_option maxRecDepth 100000 in
theorem dk0_59 : decode prog_2_method_1_code 59 = .ok (.putfield 30, 3) := rfl
set_option maxRecDepth 100000 in
theorem dk0_62 : decode prog_2_method_1_code 62 = .ok (.aload_n 0, 1) := rfl
set_option maxRecDepth 100000 in
theorem dk0_63 : decode prog_2_method_1_code 63 = .ok (.new 33, 3) := rfl
set_option maxRecDepth 100000 in
theorem dk0_66 : decode prog_2_method_1_code 66 = .ok (.dup, 1) := rfl
set_option maxRecDepth 100000 in
theorem dk0_67 : decode prog_2_method_1_code 67 = .ok (.invokespecial 35, 3) := rfl
set_option maxRecDepth 100000 in
theorem dk0_70 : decode prog_2_method_1_code 70 = .ok (.putfield 36, 3) := rfl
set_option maxRecDepth 100000 in
theorem dk0_73 : decode prog_2_method_1_code 73 = .ok (.aload_n 0, 1) := rfl
set_option maxRecDepth 100000 in
theorem dk0_74 : decode prog_2_method_1_code 74 = .ok (.new 40, 3) := rfl
set_option maxRecDepth 100000 in
theorem dk0_77 : decode prog_2_method_1_code 77 = .ok (.dup, 1) := rfl
set_option maxRecDepth 100000 in
theorem dk0_78 : decode prog_2_method_1_code 78 = .ok (.invokespecial 42, 3) := rfl
set_option maxRecDepth 100000 in
theorem dk0_81 : decode prog_2_method_1_code 81 = .ok (.putfield 43, 3) := rfl
set_option maxRecDepth 100000 in
theorem dk0_84 : decode prog_2_method_1_code 84 = .ok (.aload_n 0, 1) := rfl
set_option maxRecDepth 100000 in
theorem dk0_85 : decode prog_2_method_1_code 85 = .ok (.iconst (-1), 1) := rfl
set_option maxRecDepth 100000 in
theorem dk0_86 : decode prog_2_method_1_code 86 = .ok (.putfield 47, 3) := rfl
set_option maxRecDepth 100000 in
theorem dk0_89 : decode prog_2_method_1_code 89 = .ok (.aload_n 0, 1) := rfl
set_option maxRecDepth 100000 in
theorem dk0_90 : decode prog_2_method_1_code 90 = .ok (.iconst (-1), 1) := rfl
set_option maxRecDepth 100000 in
theorem dk0_91 : decode prog_2_method_1_code 91 = .ok (.putfield 51, 3) := rfl
set_option maxRecDepth 100000 in
theorem dk0_94 : decode prog_2_method_1_code 94 = .ok (.return_, 1) := rfl
set_option maxHeartbeats 4000000 in
set_option maxRecDepth 100000 in
theorem ct_0 : CtorC ⟨Rn 0, "<init>", "()V"⟩ prog_2_method_1_code 1 3 120 26 7721 [] 0 Lf0 := by
  refine ct_of (by decide) rfl rfl (by decide) ?_
  intro p l e s m args below meth c D tA b ls X hin g hl
  rw [dfl_0] at g
  refine lv_aload_n (i := 0) (x := b) X.1 X.2.1 dk0_0 rfl (lv_at hl 0 rfl) ?_
  refine c_obj X kw_51 kw_2 kw_3 hl.1 (by decide) dk0_1 ?_
  refine lv_aload_n (i := 0) (x := b) X.1 X.2.1 dk0_4 rfl (lv_at hl 0 rfl) ?_
  refine c_new (ci := 6) X (by decide) g kw_52 kw_53 kw_54 (by decide) (by decide) dk0_5 (fun H1 g => ?_)
  refine lv_dup X.1 X.2.1 dk0_8 rfl ?_
  refine lv_bipush (v := iN ((24 : Nat) : Int)) X.1 X.2.1 dk0_9 (by decide) ?_
  refine c_call (L := [.inr (0, [.null, .null, .null, .null, .null, .null, .null, .int 0, .int 0])]) (rest := [.ref (b + 1), .ref b]) ct_6_24 X g kw_57 kw_54 kw_55 kw_56 rfl ⟨by decide, by decide, by decide⟩ ⟨by decide, by decide⟩ ⟨by decide, by decide⟩ hl.1 (by simp [Value.category]) rfl dk0_11 (fun H2 lc2 g => ?_)
  have g : CG D b s (([.inr (0, [.null, .null, .null, .null, .null, .null, .null, .int 0, .int 0])]) ++ Lf6_24 tA (b + 1)) H2 lc2 := g
  refine c_put (k := 0) (ty := .object "RingDater$Row") (v := .ref (b + 1)) X (by decide) g (by decide) (by simp) kw_58 (fun _ => hin) rfl rfl rfl rfl dk0_14 (fun H3 lc3 g => ?_)
  have g : CG D b s (([.inr (0, [.ref (b + 1), .null, .null, .null, .null, .null, .null, .int 0, .int 0])]) ++ Lf6_24 tA (b + 1)) H3 lc3 := g
  refine lv_aload_n (i := 0) (x := b) X.1 X.2.1 dk0_17 rfl (lv_at hl 0 rfl) ?_
  refine c_new (ci := 6) X (by decide) g kw_52 kw_53 kw_54 (by decide) (by decide) dk0_18 (fun H4 g => ?_)
  refine lv_dup X.1 X.2.1 dk0_21 rfl ?_
  refine lv_bipush (v := iN ((24 : Nat) : Int)) X.1 X.2.1 dk0_22 (by decide) ?_
  refine c_call (L := ([.inr (0, [.ref (b + 1), .null, .null, .null, .null, .null, .null, .int 0, .int 0])]) ++ Lf6_24 tA (b + 1)) (rest := [.ref (b + 8), .ref b]) ct_6_24 X g kw_57 kw_54 kw_55 kw_56 rfl ⟨by decide, by decide, by decide⟩ ⟨by decide, by decide⟩ ⟨by decide, by decide⟩ hl.1 (by simp [Value.category]) rfl dk0_24 (fun H5 lc5 g => ?_)
  have g : CG D b s ((([.inr (0, [.ref (b + 1), .null, .null, .null, .null, .null, .null, .int 0, .int 0])]) ++ Lf6_24 tA (b + 1)) ++ Lf6_24 tA (b + 8)) H5 lc5 := g
  refine c_put (k := 1) (ty := .object "RingDater$Row") (v := .ref (b + 8)) X (by decide) g (by decide) (by simp) kw_59 (fun _ => hin) rfl rfl rfl rfl dk0_27 (fun H6 lc6 g => ?_)
  have g : CG D b s ((([.inr (0, [.ref (b + 1), .ref (b + 8), .null, .null, .null, .null, .null, .int 0, .int 0])]) ++ Lf6_24 tA (b + 1)) ++ Lf6_24 tA (b + 8)) H6 lc6 := g
  refine lv_aload_n (i := 0) (x := b) X.1 X.2.1 dk0_30 rfl (lv_at hl 0 rfl) ?_
  refine c_new (ci := 6) X (by decide) g kw_52 kw_53 kw_54 (by decide) (by decide) dk0_31 (fun H7 g => ?_)
  refine lv_dup X.1 X.2.1 dk0_34 rfl ?_
  refine lv_sipush (v := iN ((924 : Nat) : Int)) X.1 X.2.1 dk0_35 (by decide) ?_
  refine c_call (L := (([.inr (0, [.ref (b + 1), .ref (b + 8), .null, .null, .null, .null, .null, .int 0, .int 0])]) ++ Lf6_24 tA (b + 1)) ++ Lf6_24 tA (b + 8)) (rest := [.ref (b + 15), .ref b]) ct_6_924 X g kw_57 kw_54 kw_55 kw_56 rfl ⟨by decide, by decide, by decide⟩ ⟨by decide, by decide⟩ ⟨by decide, by decide⟩ hl.1 (by simp [Value.category]) rfl dk0_38 (fun H8 lc8 g => ?_)
  have g : CG D b s (((([.inr (0, [.ref (b + 1), .ref (b + 8), .null, .null, .null, .null, .null, .int 0, .int 0])]) ++ Lf6_24 tA (b + 1)) ++ Lf6_24 tA (b + 8)) ++ Lf6_924 tA (b + 15)) H8 lc8 := g
  refine c_put (k := 2) (ty := .object "RingDater$Row") (v := .ref (b + 15)) X (by decide) g (by decide) (by simp) kw_60 (fun _ => hin) rfl rfl rfl rfl dk0_41 (fun H9 lc9 g => ?_)
  have g : CG D b s (((([.inr (0, [.ref (b + 1), .ref (b + 8), .ref (b + 15), .null, .null, .null, .null, .int 0, .int 0])]) ++ Lf6_24 tA (b + 1)) ++ Lf6_24 tA (b + 8)) ++ Lf6_924 tA (b + 15)) H9 lc9 := g
  refine lv_aload_n (i := 0) (x := b) X.1 X.2.1 dk0_44 rfl (lv_at hl 0 rfl) ?_
  refine lv_sipush (v := iN ((924 : Nat) : Int)) X.1 X.2.1 dk0_45 (by decide) ?_
  refine c_newa (n := 924) (t := 0) X (by simp) (by omega) g (by decide) (by decide) dk0_48 kw_0 kw_1 (fun H10 g => ?_)
  have g : CG D b s ((((([.inr (0, [.ref (b + 1), .ref (b + 8), .ref (b + 15), .null, .null, .null, .null, .int 0, .int 0])]) ++ Lf6_24 tA (b + 1)) ++ Lf6_24 tA (b + 8)) ++ Lf6_924 tA (b + 15)) ++ [.inl (tA 0, (924, .inl (fun _ => 0)))]) H10 lc9 := g
  refine c_put (k := 3) (ty := .array .int) (v := .ref (b + 22)) X (by decide) g (by decide) (by simp) kw_61 (fun _ => hin) rfl rfl rfl rfl dk0_50 (fun H11 lc11 g => ?_)
  have g : CG D b s ((((([.inr (0, [.ref (b + 1), .ref (b + 8), .ref (b + 15), .ref (b + 22), .null, .null, .null, .int 0, .int 0])]) ++ Lf6_24 tA (b + 1)) ++ Lf6_24 tA (b + 8)) ++ Lf6_924 tA (b + 15)) ++ [.inl (tA 0, (924, .inl (fun _ => 0)))]) H11 lc11 := g
  refine lv_aload_n (i := 0) (x := b) X.1 X.2.1 dk0_53 rfl (lv_at hl 0 rfl) ?_
  refine lv_sipush (v := iN ((924 : Nat) : Int)) X.1 X.2.1 dk0_54 (by decide) ?_
  refine c_newa (n := 924) (t := 0) X (by simp) (by omega) g (by decide) (by decide) dk0_57 kw_0 kw_1 (fun H12 g => ?_)
  have g : CG D b s ((((([.inr (0, [.ref (b + 1), .ref (b + 8), .ref (b + 15), .ref (b + 22), .null, .null, .null, .int 0, .int 0])]) ++ Lf6_24 tA (b + 1)) ++ Lf6_24 tA (b + 8)) ++ Lf6_924 tA (b + 15)) ++ [.inl (tA 0, (924, .inl (fun _ => 0))), .inl (tA 0, (924, .inl (fun _ => 0)))]) H12 lc11 := g
  refine c_put (k := 4) (ty := .array .int) (v := .ref (b + 23)) X (by decide) g (by decide) (by simp) kw_62 (fun _ => hin) rfl rfl rfl rfl dk0_59 (fun H13 lc13 g => ?_)
  have g : CG D b s ((((([.inr (0, [.ref (b + 1), .ref (b + 8), .ref (b + 15), .ref (b + 22), .ref (b + 23), .null, .null, .int 0, .int 0])]) ++ Lf6_24 tA (b + 1)) ++ Lf6_24 tA (b + 8)) ++ Lf6_924 tA (b + 15)) ++ [.inl (tA 0, (924, .inl (fun _ => 0))), .inl (tA 0, (924, .inl (fun _ => 0)))]) H13 lc13 := g
  refine lv_aload_n (i := 0) (x := b) X.1 X.2.1 dk0_62 rfl (lv_at hl 0 rfl) ?_
  refine c_new (ci := 7) X (by decide) g kw_63 kw_31 kw_32 (by decide) (by decide) dk0_63 (fun H14 g => ?_)
  refine lv_dup X.1 X.2.1 dk0_66 rfl ?_
  refine c_callN (L := (((([.inr (0, [.ref (b + 1), .ref (b + 8), .ref (b + 15), .ref (b + 22), .ref (b + 23), .null, .null, .int 0, .int 0])]) ++ Lf6_24 tA (b + 1)) ++ Lf6_24 tA (b + 8)) ++ Lf6_924 tA (b + 15)) ++ [.inl (tA 0, (924, .inl (fun _ => 0))), .inl (tA 0, (924, .inl (fun _ => 0)))]) (rest := [.ref (b + 24), .ref b]) ct_7 X g kt_1 kw_32 kw_33 kw_34 rfl ⟨by decide, by decide, by decide⟩ ⟨by decide, by decide⟩ ⟨by decide, by decide⟩ hl.1 (by simp [Value.category]) rfl dk0_67 (fun H15 lc15 g => ?_)
  have g : CG D b s (((((([.inr (0, [.ref (b + 1), .ref (b + 8), .ref (b + 15), .ref (b + 22), .ref (b + 23), .null, .null, .int 0, .int 0])]) ++ Lf6_24 tA (b + 1)) ++ Lf6_24 tA (b + 8)) ++ Lf6_924 tA (b + 15)) ++ [.inl (tA 0, (924, .inl (fun _ => 0))), .inl (tA 0, (924, .inl (fun _ => 0)))]) ++ Lf7 tA (b + 24)) H15 lc15 := g
  refine c_put (k := 5) (ty := .object "RingDater$Slide") (v := .ref (b + 24)) X (by decide) g (by decide) (by simp) kw_64 (fun _ => hin) rfl rfl rfl rfl dk0_70 (fun H16 lc16 g => ?_)
  have g : CG D b s (((((([.inr (0, [.ref (b + 1), .ref (b + 8), .ref (b + 15), .ref (b + 22), .ref (b + 23), .ref (b + 24), .null, .int 0, .int 0])]) ++ Lf6_24 tA (b + 1)) ++ Lf6_24 tA (b + 8)) ++ Lf6_924 tA (b + 15)) ++ [.inl (tA 0, (924, .inl (fun _ => 0))), .inl (tA 0, (924, .inl (fun _ => 0)))]) ++ Lf7 tA (b + 24)) H16 lc16 := g
  refine lv_aload_n (i := 0) (x := b) X.1 X.2.1 dk0_73 rfl (lv_at hl 0 rfl) ?_
  refine c_new (ci := 1) X (by decide) g kw_65 kw_66 kw_67 (by decide) (by decide) dk0_74 (fun H17 g => ?_)
  refine lv_dup X.1 X.2.1 dk0_77 rfl ?_
  refine c_callN (L := ((((([.inr (0, [.ref (b + 1), .ref (b + 8), .ref (b + 15), .ref (b + 22), .ref (b + 23), .ref (b + 24), .null, .int 0, .int 0])]) ++ Lf6_24 tA (b + 1)) ++ Lf6_24 tA (b + 8)) ++ Lf6_924 tA (b + 15)) ++ [.inl (tA 0, (924, .inl (fun _ => 0))), .inl (tA 0, (924, .inl (fun _ => 0)))]) ++ Lf7 tA (b + 24)) (rest := [.ref (b + 25), .ref b]) ct_1 X g kt_2 kw_67 kw_68 kw_69 rfl ⟨by decide, by decide, by decide⟩ ⟨by decide, by decide⟩ ⟨by decide, by decide⟩ hl.1 (by simp [Value.category]) rfl dk0_78 (fun H18 lc18 g => ?_)
  have g : CG D b s ((((((([.inr (0, [.ref (b + 1), .ref (b + 8), .ref (b + 15), .ref (b + 22), .ref (b + 23), .ref (b + 24), .null, .int 0, .int 0])]) ++ Lf6_24 tA (b + 1)) ++ Lf6_24 tA (b + 8)) ++ Lf6_924 tA (b + 15)) ++ [.inl (tA 0, (924, .inl (fun _ => 0))), .inl (tA 0, (924, .inl (fun _ => 0)))]) ++ Lf7 tA (b + 24)) ++ Lf1 tA (b + 25)) H18 lc18 := g
  refine c_put (k := 6) (ty := .object "RingDater$Finding") (v := .ref (b + 25)) X (by decide) g (by decide) (by simp) kw_70 (fun _ => hin) rfl rfl rfl rfl dk0_81 (fun H19 lc19 g => ?_)
  have g : CG D b s ((((((([.inr (0, [.ref (b + 1), .ref (b + 8), .ref (b + 15), .ref (b + 22), .ref (b + 23), .ref (b + 24), .ref (b + 25), .int 0, .int 0])]) ++ Lf6_24 tA (b + 1)) ++ Lf6_24 tA (b + 8)) ++ Lf6_924 tA (b + 15)) ++ [.inl (tA 0, (924, .inl (fun _ => 0))), .inl (tA 0, (924, .inl (fun _ => 0)))]) ++ Lf7 tA (b + 24)) ++ Lf1 tA (b + 25)) H19 lc19 := g
  refine lv_aload_n (i := 0) (x := b) X.1 X.2.1 dk0_84 rfl (lv_at hl 0 rfl) ?_
  refine lv_iconst (v := iN (-1)) X.1 X.2.1 dk0_85 (by decide) ?_
  refine c_put (k := 7) (ty := .int) (v := .int (iN (-1))) X (by decide) g (by decide) (by simp) kw_71 (fun _ => hin) rfl rfl rfl rfl dk0_86 (fun H20 lc20 g => ?_)
  have g : CG D b s ((((((([.inr (0, [.ref (b + 1), .ref (b + 8), .ref (b + 15), .ref (b + 22), .ref (b + 23), .ref (b + 24), .ref (b + 25), .int (iN (-1)), .int 0])]) ++ Lf6_24 tA (b + 1)) ++ Lf6_24 tA (b + 8)) ++ Lf6_924 tA (b + 15)) ++ [.inl (tA 0, (924, .inl (fun _ => 0))), .inl (tA 0, (924, .inl (fun _ => 0)))]) ++ Lf7 tA (b + 24)) ++ Lf1 tA (b + 25)) H20 lc20 := g
  refine lv_aload_n (i := 0) (x := b) X.1 X.2.1 dk0_89 rfl (lv_at hl 0 rfl) ?_
  refine lv_iconst (v := iN (-1)) X.1 X.2.1 dk0_90 (by decide) ?_
  refine c_put (k := 8) (ty := .int) (v := .int (iN (-1))) X (by decide) g (by decide) (by simp) kw_72 (fun _ => hin) rfl rfl rfl rfl dk0_91 (fun H21 lc21 g => ?_)
  have g : CG D b s ((((((([.inr (0, [.ref (b + 1), .ref (b + 8), .ref (b + 15), .ref (b + 22), .ref (b + 23), .ref (b + 24), .ref (b + 25), .int (iN (-1)), .int (iN (-1))])]) ++ Lf6_24 tA (b + 1)) ++ Lf6_24 tA (b + 8)) ++ Lf6_924 tA (b + 15)) ++ [.inl (tA 0, (924, .inl (fun _ => 0))), .inl (tA 0, (924, .inl (fun _ => 0)))]) ++ Lf7 tA (b + 24)) ++ Lf1 tA (b + 25)) H21 lc21 := g
  exact ct_ret X g dk0_94

