/-! TOLD, 2: the class's: a world with the memory, out and the builder. -/
def LHX (D : va_G) (tA : Nat → ClassId) (n0 o bs : Nat) (adr : Nat → Nat) (M : Mm) (f : Nat → Int64) (x : BS) (H : Heap) : Prop :=
  (n0 ≤ H.size ∧ va_P D clA (wsA tA adr M) H ∧ va_at D clA (o, .inl (tA 5, (1, .inr (.inl f)))) H) ∧ (n0 ≤ xB x ∧ xB x ≠ o ∧ xB x ≠ bs ∧ ∀ a, a < NN → xB x ≠ adr a) ∧ okX x ∧ va_P D clA (BW tA bs x) H
/-- the builder's text -/
def isTx (x : BS) (w : List Int) : Prop := xN x = w.length ∧ ∀ j, j < w.length → xT x j = w.getD j 0
theorem isTx_app {x x' : BS} {w : List Int} {c : Int} (h : isTx x w) (e : xN x' = xN x + 1 ∧ (∀ j, j < xN x → xT x' j = xT x j) ∧ xT x' (xN x) = c) : isTx x' (w ++ [c]) := by
  obtain ⟨h1, h2⟩ := h
  obtain ⟨e1, e2, e3⟩ := e
  refine ⟨by rw [List.length_append, e1, h1]; rfl, fun j hj => ?_⟩
  have hj' : j < w.length + 1 := by simpa using hj
  rw [getD_app hj']
  by_cases c : j = w.length
  · rw [if_pos c, c, ← h1, e3]
  · rw [if_neg c, e2 j (by omega), h2 j (by omega)]
theorem isTx_num {x x' : BS} {w : List Int} {a : Int} (h : isTx x w) (e : (∀ j, j < xN x → xT x' j = xT x j) ∧ if a ≤ 9 then xN x' = xN x + 1 ∧ xT x' (xN x) = 48 + a else xN x' = xN x + 2 ∧ xT x' (xN x) = 48 + a / 10 ∧ xT x' (xN x + 1) = 48 + a % 10) : isTx x' (w ++ dgW a) := by
  obtain ⟨e2, e⟩ := e
  unfold dgW
  by_cases c : a ≤ 9
  · rw [if_pos c] at e ⊢
    exact isTx_app h ⟨e.1, e2, e.2⟩
  · rw [if_neg c] at e ⊢
    obtain ⟨e1, e3, e4⟩ := e
    obtain ⟨h1, h2⟩ := h
    have g : isTx (xB x', xC x', xN x + 1, xM x', xT x') (w ++ [48 + a / 10]) := isTx_app ⟨h1, h2⟩ ⟨rfl, e2, e3⟩
    have g2 := isTx_app (x' := x') (c := 48 + a % 10) g ⟨e1, fun j hj => rfl, e4⟩
    simpa using g2
theorem isTx_tb {x : BS} (e : xN x = 7 ∧ ∀ j, j < 7 → xT x j = tbW.getD j 0) : isTx x tbW := e
section P2
variable {D : va_G} {tA : Nat → ClassId} {n0 o bs : Nat} {adr adV : Nat → Nat} {M M' : Mm} {f : Nat → Int64} {x x' : BS} {H H1 : Heap}
theorem LHX.to (h : LHX D tA n0 o bs adr M f x H) : LH D tA n0 o bs adr M f H := ⟨h.1.1, h.1.2.1, h.1.2.2, xB x, xC x, xN x, xM x, xT x, h.2.1, h.2.2.1, h.2.2.2 0 _ rfl, h.2.2.2 1 _ rfl⟩
theorem LH.ex (h : LH D tA n0 o bs adr M f H) : ∃ x, LHX D tA n0 o bs adr M f x H := by
  obtain ⟨h1, h2, h3, bb, cap, cnt, ml, T, h4, h5, h6, h7⟩ := h
  refine ⟨(bb, cap, cnt, ml, T), ⟨h1, h2, h3⟩, h4, h5, fun k y hy => ?_⟩
  match k, hy with
  | 0, hy => cases hy; exact h6
  | 1, hy => cases hy; exact h7
theorem x_keep (hm : LM n0 o bs adr) (hh : LHX D tA n0 o bs adr M f x H) (hz : H.size ≤ H1.size) (hk : ∀ q : Nat, q < H.size → ¬ AA adr H.size q → H1[q]? = H[q]?) (hP : va_P D clA (wsA tA adr M') H1) : LHX D tA n0 o bs adr M' f x H1 := by
  obtain ⟨⟨h1, h2, h3⟩, ⟨b1, b2, b3, b4⟩, hc, h4⟩ := hh
  have hn : ∀ q : Nat, q < H.size → (∀ a, a < NN → adr a ≠ q) → ¬ AA adr H.size q := by
    rintro q hq hne (⟨a, ha, rfl⟩ | hge)
    · exact hne a ha rfl
    · omega
  have l3 : o < H.size := h3.lt
  refine ⟨⟨Nat.le_trans h1 hz, hP, h3.kept (hk o l3 (hn o l3 (fun a ha => (hm.2.1 a ha).2.1)))⟩, ⟨b1, b2, b3, b4⟩, hc, fun k y hy => ?_⟩
  have hl := (h4 k y hy).lt
  refine (h4 k y hy).kept (hk _ hl (hn _ hl (fun a ha => ?_)))
  match k, hy with
  | 0, hy => cases hy; exact (hm.2.1 a ha).2.2
  | 1, hy => cases hy; exact fun e => b4 a ha e.symm
/-- behind a call of the builder -/
theorem x_bkeep (hm : LM n0 o bs adr) (hh : LHX D tA n0 o bs adr M f x H) (hz : H.size ≤ H1.size) (hk : ∀ q : Nat, q < H.size → ¬ bA bs (xB x) H.size q → H1[q]? = H[q]?) (hx : okX x') (hP : va_P D clA (BW tA bs x') H1) (hb : bs ≠ xB x' ∧ bA bs (xB x) H.size (xB x')) : LHX D tA n0 o bs adr M f x' H1 := by
  obtain ⟨⟨h1, h2, h3⟩, ⟨b1, b2, b3, b4⟩, hc, h4⟩ := hh
  have l3 : o < H.size := h3.lt
  have hn : ∀ q : Nat, q < H.size → q ≠ bs → q ≠ xB x → ¬ bA bs (xB x) H.size q := by
    rintro q hq n1 n2 (h | h | h)
    · exact n1 h
    · exact n2 h
    · omega
  have wl : ∀ a, a < NN → adr a < H.size := fun a ha => (h2 a _ (wsA_at ha)).lt
  have hB : xB x' = xB x ∨ H.size ≤ xB x' := by
    rcases hb.2 with h | h | h
    · exact absurd h.symm hb.1
    · exact .inl h
    · exact .inr h
  refine ⟨⟨Nat.le_trans h1 hz, h2.kept (fun k q hq => ?_), h3.kept (hk o l3 (hn o l3 hm.1.2.2 (fun e => b2 e.symm)))⟩, ⟨?_, ?_, fun e => hb.1 e.symm, fun a ha => ?_⟩, hx, hP⟩
  · obtain ⟨k1, k2⟩ := ws_el hq
    rw [k2]
    exact hk _ (wl k k1) (hn _ (wl k k1) (hm.2.1 k k1).2.2 (fun e => b4 k k1 e.symm))
  · rcases hB with e | e
    · rw [e]; exact b1
    · omega
  · rcases hB with e | e
    · rw [e]; exact b2
    · omega
  · rcases hB with e | e
    · rw [e]; exact b4 a ha
    · have := wl a ha; omega
end P2
section P3
variable {p : Program} {l : Launch} {e : Env} {R : Room} {s : State} {m : MethodId} {args : Array Value} {below : List Frame} {meth : Method} {c : Code} {Q : State → Prop}
variable {D : va_G} {tA : Nat → ClassId} {n0 o bs : Nat} {adr adV : Nat → Nat} {M : Mm} {f : Nat → Int64} {x : BS} {H : Heap} {locs : List Loc} {cells slots pc : Nat} {ls : Array Slot} {rest st0 : List Value} {nL : Nat} {cc : ByteArray} {own : String}
def LWo (own : String) (idx q : Nat) : Prop := (Cond.methodLink own idx (yM q) ∈ gW ∧ Cond.instanceMethod (yM q) ∈ gW) ∧ (Cond.selects (yM q).cls (yM q) (yM q) ∈ gW ∧ Cond.initialized (yM q).cls ∈ gW) ∧ (parseMethodDescriptor (yM q).desc).map (fun d => d.parameters.length + 1) = some (nM q) ∧ q < mtN
theorem LHX.Wld {U : State} (hm : LM n0 o bs adr) (hs : LSt D tA n0 adr adV U H) (hh : LHX D tA n0 o bs adr M f x H) (hU : U.heap = H) : Wld D tA adr adV M H.size U := lw_Wld hm hs hh.to hU
/-- a field of a cell of the memory -/
theorem t_get {a ci k index : Nat} {fs : List (Option Nat)} {r : Option Nat} (X : BX p s m args c own nL cc) (hs : LSt D tA n0 adr adV s s.heap) (hh : LHX D tA n0 o bs adr M f x H) (hlay : lay a = .inr (.inl (ci, fs))) (hci : ci < 13) (hk : k < Nc ci) (hf : fs[k]? = some r) (hl : Cond.fieldLink own index (Tc ci k).1 (Tc ci k).2.1 (Tc ci k).2.2.1 ∈ gW) (hdg : decode cc pc = .ok (.getfield index, 3))
    (kk : W p l e R s m args below meth c H locs cells slots Q (F0 m (pc + 3) ls (celV adr M a k r :: rest))) : W p l e R s m args below meth c H locs cells slots Q (F0 m pc ls (.ref (adr a) :: rest)) := by
  obtain ⟨c1, c2⟩ := cls_el hci
  exact va_get (ref := (Tc ci k).1) X.1 X.2.1 X.2.2.2.2 c2 X.2.2.2.1 hs.1.1 hh.1.2.1 a (ws_obj hlay) c1 k hk (X.2.2.2.2 _ hl) (fun _ h => h) (by simp [celF, List.getElem?_mapIdx, hf]) hdg kk
/-- a call on a cell of the memory -/
theorem t_call {idx q b : Nat} {As : List AV} {Qc : Option AV → Mm → Prop} (X : BX p s m args c own nL cc) (hw : LWo own idx q) (hm : LM n0 o bs adr) (hs : LSt D tA n0 adr adV s s.heap) (hh : LHX D tA n0 o bs adr M f x H) (hS : LV n0 s H locs) (hls : ls.size = nL) (hb : kc (lay b) (oM q)) (hn : As.length + 1 = nM q) (hR : dM q + 1 ≤ R.frames ∧ 49 + 64 * dM q ≤ R.locals) (hc : cells ≤ R.cells ∧ slots ≤ R.slots)
    (hrest : (rest.map fun v => v.category).sum ≤ 8) (hst : st0 = (As.map (cvA adr)).reverse ++ .ref (adr b) :: rest) (hdg : decode cc pc = .ok (.invokevirtual idx, 3)) (hC : CallP q (.inr b :: As) M Qc)
    (hk : ∀ v M' H1 locs1, Qc v M' → LHX D tA n0 o bs adr M' f x H1 → LV n0 s H1 locs1 → W p l e R s m args below meth c H1 locs1 cells slots Q (F0 m (pc + 3) ls ((v.map (cvA adr)).toList ++ rest))) : W p l e R s m args below meth c H locs cells slots Q (F0 m pc ls st0) := by
  obtain ⟨hx, hb', hml, hown, hts⟩ := X
  have hq := hw.2.2.2
  have h30 := l_l30 hq
  have hsig : (yM q).cls ≠ "java/lang/invoke/MethodHandle" ∧ (yM q).cls ≠ "java/lang/invoke/VarHandle" ∧ (parseMethodDescriptor (yM q).desc).map (fun d => d.parameters.length) = some As.length := by
    obtain ⟨m1, m2⟩ := meth_el hq
    simp only [okM, Bool.and_eq_true, decide_eq_true_eq] at m2
    obtain ⟨⟨⟨⟨⟨⟨-, hpl⟩, hcls⟩, hn1⟩, hn2⟩, hl30⟩, -⟩ := m2
    have w4 := hw.2.2.1
    refine ⟨hn1, hn2, ?_⟩
    cases hp : parseMethodDescriptor (yM q).desc with
    | none => rw [hp] at w4; cases w4
    | some d =>
      rw [hp] at w4
      have : d.parameters.length + 1 = nM q := Option.some.inj w4
      simp only [Option.map_some]
      congr 1
      omega
  have hr := va_runV (p := p) (l := l) (e := e) (R := R) (s := s) (m := m) (args := args) (below := below) (meth := meth) (c := c) (H := H) (locs := locs) (cells := cells) (slots := slots) (b := adr b) (g := F0 m pc ls st0) (rest := rest) (own := own) (Ts := gW) (nL := nL) (As := As.map (cvA adr)) (C := (yM q).cls) (n := As.length) (bytes := cM q) (maxL := lM q) (ret := rM q) ⟨hx, hb', hml, hown, hts⟩ (hC l D tA adr adV H.size)
    ⟨callB_of As.length hts (wM_good hq) rfl rfl rfl (hts _ hw.2.1.2) (hts _ hw.1.1) hsig ⟨hR.1, by show 8 + (lM q + 11) + 64 * dM q ≤ R.locals; omega⟩, hts _ hw.1.2, hts _ hw.2.1.1⟩
    ⟨Wld.blind _, l_recv hs hh.to hq hb, fun U hU hW => ⟨by simp [cvA], by rw [← hU]; exact LHX.Wld hm (hU ▸ hs.now hS hW) (hU ▸ hh) rfl⟩⟩ rfl (by simp) hls hst (lv_room (pc := pc) (ls := ls) (rest := st0) hrest) hdg ⟨by omega, by omega⟩
  intro T hT XX
  obtain ⟨v, st₀, t, T', L2, h0, X', hL, e1, e2, ⟨⟨v', M', hq', hv, hP, hD⟩, hz, hkk⟩, st⟩ := hr T hT XX
  rw [h0] at hz hkk hD
  have hv' : v = v'.map (cvA adr) := by cases hv; rfl
  subst hv'
  have hz1 : H.size ≤ T'.heap.size := by rw [e1]; exact hz
  have hk1 : ∀ y : Nat, y < H.size → ¬ AA adr H.size y → T'.heap[y]? = H[y]? := fun y h1 h2 => by rw [e1]; exact hkk y h1 h2
  have K := hk v' M' T'.heap (locs ++ L2) hq' (x_keep hm hh hz1 hk1 (by rw [e1]; exact hP)) (vS_app hS hz1 hk1 (hm.sub hh.1.1) (fun y hy => hm.sub hh.1.1 _ (hL y hy)))
  obtain ⟨t2, a1, b1⟩ := K T' rfl X'
  exact ⟨t2, st t2 a1, b1⟩
/-- a call of the builder -/
theorem t_bcall {y : MethodName} {cc2 : ByteArray} {nL2 fr lo mc ms idx n : Nat} {ret : Option FieldType} {av : BS → (Nat → Nat) → List Value} {P : BS → Prop} {Rr : BS → Option Value → BS → Prop} {As : List Value} (X : BX p s m args c own nL cc) (hm : LM n0 o bs adr) (hs : LSt D tA n0 adr adV s s.heap) (hh : LHX D tA n0 o bs adr M f x H) (hS : LV n0 s H locs) (hC : BC y cc2 nL2 ret fr lo mc ms bs av P Rr) (hP : P x) (hw : BWd 0 own idx y cc2 nL2 ret RJ4 n) (hav : av x adr = .ref bs :: As) (hn : As.length = n) (hls : ls.size = nL) (hR : fr + 1 ≤ R.frames ∧ 39 + lo ≤ R.locals) (hf : cells + mc ≤ R.cells ∧ slots + ms ≤ R.slots) (hrest : (rest.map fun v => v.category).sum ≤ 8) (hst : st0 = As.reverse ++ .ref bs :: rest) (hdg : decode cc pc = .ok (.invokevirtual idx, 3))
    (kk : ∀ v x' H1 locs1, Rr x v x' → LHX D tA n0 o bs adr M f x' H1 → LV n0 s H1 locs1 → W p l e R s m args below meth c H1 locs1 (cells + mc) (slots + ms) Q (F0 m (pc + 3) ls (v.toList ++ rest))) : W p l e R s m args below meth c H locs cells slots Q (F0 m pc ls st0) := by
  obtain ⟨⟨⟨w1, w2, w3⟩, w4, w5⟩, w6, w7⟩ := hw
  have hts := X.2.2.2.2
  have hr := va_runV (p := p) (l := l) (e := e) (R := R) (s := s) (m := m) (args := args) (below := below) (meth := meth) (c := c) (H := H) (locs := locs) (cells := cells) (slots := slots) (b := bs) (g := F0 m pc ls st0) (rest := rest) (own := own) (Ts := gW) (nL := nL) (As := As) (C := RJ4) (n := n) (bytes := cc2) (maxL := nL2) (ret := ret) X (hC l D tA n0 adr adV H.size x hP) ⟨callB_of n hts (code_good w3) rfl rfl rfl (hts _ w2) (hts _ w1) w4 ⟨hR.1, by show 8 + (nL2 + 11) + lo ≤ R.locals; omega⟩, hts _ w6, hts _ w7⟩
    ⟨BPre.blind, va_recv hs.1.2 hh.2.2.2 c13.1 (q0 := 0) rfl, fun U hU hW => ⟨by rw [hav], ⟨by rw [hU], hh.1.1, hm.1.2.1, hh.2.1.1, fun e => hh.2.1.2.2.1 e.symm⟩, hh.2.2.1, by rw [hU]; exact hh.2.2.2, by
      have hs2 := hs.now hS hW
      rw [hU]
      exact ⟨hs2.1.2, hs2.2.1, hs2.2.2.2.2.2.1, hs2.2.2.2.2.2.2⟩⟩⟩ rfl hn hls hst (lv_room (pc := pc) (ls := ls) (rest := st0) hrest) hdg hf
  intro T hT XX
  obtain ⟨v, st₀, t, T', L2, h0, X', hL2, e1, e2, ⟨⟨_, x', hv, hR2, hx, hP2, hb⟩, hsz, hkk⟩, st⟩ := hr T hT XX
  rw [h0] at hsz hkk
  cases hv
  have hz1 : H.size ≤ T'.heap.size := by rw [e1]; exact hsz
  have hk1 : ∀ y : Nat, y < H.size → ¬ bA bs (xB x) H.size y → T'.heap[y]? = H[y]? := fun y h1 h2 => by rw [e1]; exact hkk y h1 h2
  have hsub : ∀ q, bA bs (xB x) H.size q → n0 ≤ q := by
    rintro q (rfl | rfl | hq)
    · exact hm.1.2.1
    · exact hh.2.1.1
    · exact Nat.le_trans hh.1.1 hq
  have K := kk v x' T'.heap (locs ++ L2) hR2 (x_bkeep hm hh hz1 hk1 hx (by rw [e1]; exact hP2) hb) (vS_app hS hz1 hk1 hsub (fun q hq => hsub _ (hL2 q hq)))
  obtain ⟨t2, a1, b1⟩ := K T' rfl X'
  exact ⟨t2, st t2 a1, b1⟩
end P3
