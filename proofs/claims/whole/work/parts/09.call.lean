/-! SOUNDNESS: calls. -/
theorem am_args_el : ∀ {n : Nat} {st acc ar rest : List AV}, am_args n st acc = some (ar, rest) → ar.length = n + acc.length ∧ acc.reverse ++ st = ar.reverse ++ rest
  | 0, st, acc, ar, rest, h => by
    simp only [am_args, Option.some.injEq, Prod.mk.injEq] at h
    obtain ⟨rfl, rfl⟩ := h
    simp
  | n + 1, [], acc, ar, rest, h => by simp [am_args] at h
  | n + 1, v :: st, acc, ar, rest, h => by
    have h1 := am_args_el (n := n) (st := st) (acc := v :: acc) h
    refine ⟨by simp only [List.length_cons] at h1; omega, ?_⟩
    rw [← h1.2]
    simp
theorem meth_el {q : Nat} (h : q < mtN) : lw_tbl[pM q]? = some (codeW q) ∧ okM q = true := ⟨tcs_all q h, List.all_eq_true.mp tb_meth q (List.mem_range.mpr h)⟩
theorem wM_good {q : Nat} (h : q < mtN) : GoodIn gW (wM q) := by
  obtain ⟨h1, h2⟩ := meth_el h
  simp only [okM, Bool.and_eq_true] at h2
  have hg : goodWord (Cond.code (yM q) (cM q) (lM q) (rM q)) = true := h2.1.1.1.1.1.1
  intro w hw
  rcases List.mem_cons.mp hw with rfl | hw
  · exact ⟨gW_at h1 hg, good_of_word hg⟩
  · exact ⟨hw, good_of_word (List.mem_filter.mp hw).2⟩
theorem inv_el {o x q op : Nat} (ho : o < 14) (h : invT o x = some (q, op)) : (∃ p1 p2 p3 p4, (x, q, op, p1, p2, p3, p4) ∈ invL o) ∧ (op ≤ 2 → q < mtN ∧ Cond.initialized (yM q).cls ∈ gW) ∧
    (op = 0 → Cond.methodLink (Rn o) x (yM q) ∈ gW ∧ Cond.instanceMethod (yM q) ∈ gW ∧ Cond.selects (yM q).cls (yM q) (yM q) ∈ gW ∧ (parseMethodDescriptor (yM q).desc).map (fun d => d.parameters.length + 1) = some (nM q)) ∧
    (op = 1 → Cond.methodLink (Rn o) x (yM q) ∈ gW ∧ Cond.static (yM q) ∈ gW ∧ (parseMethodDescriptor (yM q).desc).map (fun d => d.parameters.length) = some (nM q)) ∧
    (op = 2 → Cond.static (yM q) ∈ gW ∧ (parseMethodDescriptor (yM q).desc).map (fun d => d.parameters.length) = some (nM q)) ∧
    (3 ≤ op → Cond.initialized "java/lang/Math" ∈ gW) ∧
    (op = 3 → Cond.methodLink (Rn o) x Lib.Math.max.name ∈ gW ∧ Cond.static Lib.Math.max.name ∈ gW ∧ Cond.code Lib.Math.max.name Lib.Math.max.code 2 (some .int) ∈ gW) ∧
    (op = 4 → Cond.methodLink (Rn o) x Lib.Math.min.name ∈ gW ∧ Cond.static Lib.Math.min.name ∈ gW ∧ Cond.code Lib.Math.min.name Lib.Math.min.code 2 (some .int) ∈ gW) ∧
    (op = 5 → Cond.methodLink (Rn o) x Lib.Math.abs.name ∈ gW ∧ Cond.static Lib.Math.abs.name ∈ gW ∧ Cond.code Lib.Math.abs.name Lib.Math.abs.code 1 (some .int) ∈ gW) := by
  simp only [invT, Option.map_eq_some_iff] at h
  obtain ⟨⟨x', q', op', p1, p2, p3, p4⟩, h1, h0⟩ := h
  have hx : x' = x := by have := List.find?_some h1; simpa using this
  subst hx
  cases h0
  have hm := List.mem_of_find?_eq_some h1
  have h2 := List.all_eq_true.mp (tb_inv o) _ hm
  simp only [okI, Bool.and_eq_true, Bool.or_eq_true, decide_eq_true_eq] at h2
  obtain ⟨h3, h4⟩ := h2
  refine ⟨⟨p1, p2, p3, p4, hm⟩, ?_, ?_, ?_, ?_, ?_, ?_, ?_, ?_⟩
  · intro z
    have z' : op' ≤ 2 := z
    rcases h3 with ⟨⟨⟨-, g1⟩, g2⟩, g3⟩ | ⟨⟨g1, -⟩, -⟩
    · exact ⟨g1, gW_at g2 g3⟩
    · omega
  · intro z
    rcases h4 with (((((⟨⟨⟨⟨⟨⟨⟨g0, g1⟩, g2⟩, g3⟩, g4⟩, g5⟩, g6⟩, g7⟩ | g) | g) | g) | g) | g)
    · exact ⟨gW_at g1 g2, gW_at g3 g4, gW_at g5 g6, g7⟩
    · exact absurd (z.symm.trans g.1.1.1.1.1) (by decide)
    · exact absurd (z.symm.trans g.1.1.1) (by decide)
    · exact absurd (z.symm.trans g.1.1.1) (by decide)
    · exact absurd (z.symm.trans g.1.1.1) (by decide)
    · exact absurd (z.symm.trans g.1.1.1) (by decide)
  · intro z
    rcases h4 with (((((g | ⟨⟨⟨⟨⟨g0, g1⟩, g2⟩, g3⟩, g4⟩, g5⟩) | g) | g) | g) | g)
    · exact absurd (z.symm.trans g.1.1.1.1.1.1.1) (by decide)
    · exact ⟨gW_at g1 g2, gW_at g3 g4, g5⟩
    · exact absurd (z.symm.trans g.1.1.1) (by decide)
    · exact absurd (z.symm.trans g.1.1.1) (by decide)
    · exact absurd (z.symm.trans g.1.1.1) (by decide)
    · exact absurd (z.symm.trans g.1.1.1) (by decide)
  · intro z
    rcases h4 with (((((g | g) | ⟨⟨⟨g0, g1⟩, g2⟩, g3⟩) | g) | g) | g)
    · exact absurd (z.symm.trans g.1.1.1.1.1.1.1) (by decide)
    · exact absurd (z.symm.trans g.1.1.1.1.1) (by decide)
    · exact ⟨gW_at g1 g2, g3⟩
    · exact absurd (z.symm.trans g.1.1.1) (by decide)
    · exact absurd (z.symm.trans g.1.1.1) (by decide)
    · exact absurd (z.symm.trans g.1.1.1) (by decide)
  · intro z
    have z' : 3 ≤ op' := z
    rcases h3 with ⟨⟨⟨g0, -⟩, -⟩, -⟩ | ⟨⟨-, g2⟩, g3⟩
    · omega
    · exact gW_at g2 g3
  · intro z
    rcases h4 with (((((g | g) | g) | ⟨⟨⟨g0, g1⟩, g2⟩, g3⟩) | g) | g)
    · exact absurd (z.symm.trans g.1.1.1.1.1.1.1) (by decide)
    · exact absurd (z.symm.trans g.1.1.1.1.1) (by decide)
    · exact absurd (z.symm.trans g.1.1.1) (by decide)
    · exact ⟨gW_at g1 rfl, gW_at g2 rfl, gW_at tb_max rfl⟩
    · exact absurd (z.symm.trans g.1.1.1) (by decide)
    · exact absurd (z.symm.trans g.1.1.1) (by decide)
  · intro z
    rcases h4 with (((((g | g) | g) | g) | ⟨⟨⟨g0, g1⟩, g2⟩, g3⟩) | g)
    · exact absurd (z.symm.trans g.1.1.1.1.1.1.1) (by decide)
    · exact absurd (z.symm.trans g.1.1.1.1.1) (by decide)
    · exact absurd (z.symm.trans g.1.1.1) (by decide)
    · exact absurd (z.symm.trans g.1.1.1) (by decide)
    · exact ⟨gW_at g1 rfl, gW_at g2 rfl, gW_at tb_min rfl⟩
    · exact absurd (z.symm.trans g.1.1.1) (by decide)
  · intro z
    rcases h4 with (((((g | g) | g) | g) | g) | ⟨⟨⟨g0, g1⟩, g2⟩, g3⟩)
    · exact absurd (z.symm.trans g.1.1.1.1.1.1.1) (by decide)
    · exact absurd (z.symm.trans g.1.1.1.1.1) (by decide)
    · exact absurd (z.symm.trans g.1.1.1) (by decide)
    · exact absurd (z.symm.trans g.1.1.1) (by decide)
    · exact absurd (z.symm.trans g.1.1.1) (by decide)
    · exact ⟨gW_at g1 rfl, gW_at g2 rfl, gW_at tb_abs rfl⟩
section CLL
variable {p : Program} {l : Launch} {e : Env} {R : Room} {s : State} {m : MethodId} {args : Array Value} {below : List Frame} {meth : Method} {c : Code} {Q : State → Prop}
variable {D : va_G} {tA : Nat → ClassId} {adr adV : Nat → Nat} {mi : Nat}
theorem wsD_any {A : Nat → Prop} {M : Mm} (n : Nat) (h : va_D A (wsA tA adr M)) : va_D (AA adr n) (wsA tA adr M) :=
  h.weaken (fun k q hk _ => by
    simp only [wsA, List.getElem?_map, Option.map_eq_some_iff] at hk
    obtain ⟨a, ha, rfl⟩ := hk
    exact Or.inl ⟨a, List.mem_range.mp (List.mem_of_getElem? ha), rfl⟩)
theorem Wld.blind {M : Mm} {sz : Nat} (as : List AV) : FrameBlind (va_Pc (as.map (cvA adr)) (Wld D tA adr adV M sz)) := by
  intro a U g mk ⟨h, h1, h2, h3, h4, h5, h6⟩
  exact ⟨h, h1, h2, va_K.moved (u := U) (U := U.calling g mk a) (Vm.Alike.refl U.vm) h3, h4, Stc.moved (u := U) (U := U.calling g mk a) (Vm.Alike.refl U.vm) h5, Strs.same (u := U) (U := U.calling g mk a) rfl h6⟩
theorem Wld.now {M : Mm} {H : Heap} {locs : List Loc} (F : FxA p R s m args c D tA adr adV mi) (g : GD D tA adr s M H locs) {U : State} (hU : U.heap = H) (hW : s.WarmedH U.vm) : Wld D tA adr adV M H.size U := by
  obtain ⟨hx, hb, hml, hown, hts, hK, hC, hR, hfr, hlo, ho⟩ := F
  refine ⟨by rw [hU], by rw [hU]; exact g.1, va_K.moved hW.alike hK, wsD_any _ g.2.1, ?_, hR.warm hW⟩
  rw [hU]
  exact Stc.moved hW.alike ((hC.kept g.2.2.2.1).narrow (AA_mono g.2.2.1))
/-- behind a call -/
theorem am_after {M : Mm} {H : Heap} {locs : List Loc} {pc : Nat} {ls : AL} {lsC : Array Slot} {st0 rest : List Value} {r : List AV} {a : Array Value} {Qc : Option AV → Mm → Prop} (hrest : rest = r.map (cvA adr)) (g : GD D tA adr s M H locs) (hl : LOK adr (lM mi) lsC ls)
    (hr : va_Run p l e R s m args below meth c H locs 0 0 0 0 (F0 m pc lsC st0) rest (Qm D tA adr Qc (AA adr H.size) a) (AA adr H.size))
    (hk : ∀ v M', Qc v M' → Sm p l e R s m args below meth c Q D tA adr mi (pc + 3) ls (v.toList ++ r) M') : W p l e R s m args below meth c H locs 0 0 Q (F0 m pc lsC st0) := by
  intro T hT X
  obtain ⟨v, st₀, t, T', L, h0, X', hL, e1, e2, ⟨⟨v', M', hq, hv, hP, hD⟩, hz, hkk⟩, st⟩ := hr T hT X
  rw [h0] at hz hkk hD
  have hv' : v = v'.map (cvA adr) := by cases hv; rfl
  subst hv'
  have hS := g.2.2
  have hsub : ∀ q, AA adr H.size q → AA adr s.heap.size q := AA_mono hS.1
  have g1 : GD D tA adr s M' T'.heap (locs ++ L) := by
    refine ⟨by rw [e1]; exact hP, wsD_any _ hD, Nat.le_trans hS.1 (by rw [e1]; exact hz), fun q h1 h2 => ?_, fun q hq => ?_⟩
    · rw [e1, hkk q (Nat.lt_of_lt_of_le h1 hS.1) (fun z => h2 (hsub q z))]
      exact hS.2.1 q h1 h2
    · rcases List.mem_append.mp hq with h | h
      · exact hS.2.2 q h
      · exact hsub _ (hL q h)
  have K := hk v' M' hq T'.heap (locs ++ L) lsC g1 hl
  have e3 : (v'.map (cvA adr)).toList ++ rest = (v'.toList ++ r).map (cvA adr) := by
    subst hrest
    cases v' <;> simp
  obtain ⟨t2, a1, b1⟩ := K T' rfl X'
  refine ⟨t2, st t2 ?_, b1⟩
  rw [e3]
  exact a1
theorem callee_room {q : Nat} (hq : q < mtN) (F : FxA p R s m args c D tA adr adV mi) (hd : dM q < dM mi) : (rmM q).frames + 1 ≤ R.frames ∧ 8 + (lM q + 11) + (rmM q).locals ≤ R.locals := by
  obtain ⟨hx, hb, hml, hown, hts, hK, hC, hR, hfr, hlo, ho⟩ := F
  obtain ⟨h1, h2⟩ := meth_el hq
  simp only [okM, Bool.and_eq_true, decide_eq_true_eq] at h2
  have hl : lM q ≤ 30 := h2.1.2
  simp only [rmM]
  omega
theorem s_invokevirtual {x q : Nat} {st ar rest : List AV} {ls : AL} {M : Mm} {pc : Nat} {Qc : Option AV → Mm → Prop} (F : FxA p R s m args c D tA adr adV mi) (hdg : decode (cM mi) pc = .ok (.invokevirtual x, 3)) (hi : invT (oM mi) x = some (q, 0)) (har : am_args (nM q) st [] = some (ar, rest)) (hlen : rest.length ≤ 8) (hd : dM q < dM mi) (hrc : am_rcv q ar)
    (hc : CallP q ar M Qc) (hk : ∀ v M', Qc v M' → Sm p l e R s m args below meth c Q D tA adr mi (pc + 3) ls (v.toList ++ rest) M') : Sm p l e R s m args below meth c Q D tA adr mi pc ls st M := by
  intro H locs lsC g hl
  have F0' := F
  obtain ⟨hx, hb, hml, hown, hts, hK, hC, hR, hfr, hlo, ho⟩ := F
  obtain ⟨-, i1, i2, -, -, -, -, -, -⟩ := inv_el ho hi
  obtain ⟨hq, hini⟩ := i1 (by omega)
  obtain ⟨w1, w2, w3, w4⟩ := i2 rfl
  obtain ⟨m1, m2⟩ := meth_el hq
  simp only [okM, Bool.and_eq_true, decide_eq_true_eq] at m2
  obtain ⟨⟨⟨⟨⟨⟨-, hpl⟩, hcls⟩, hn1⟩, hn2⟩, hl30⟩, -⟩ := m2
  obtain ⟨a1, a2⟩ := am_args_el har
  simp only [List.reverse_nil, List.nil_append, List.length_nil, Nat.add_zero] at a1 a2
  match ar, hrc with
  | .inr b :: As, hrc =>
    have hM := hc l D tA adr adV H.size
    have hrecv : ∃ cellB : Cell, H[adr b]? = some cellB ∧ cellB.vm.isStatics = false ∧ s.vm.findClass (yM q).cls = some cellB.cls := by
      rw [hcls]
      rcases hrc with hrc | ⟨r1, r2, r3⟩
      · unfold kc at hrc
        split at hrc
        · rename_i c' fs hlay
          subst hrc
          have hlt := lay_ok (lay_lt (a := b) (by rw [hlay]; intro n q; cases q))
          simp only [okL, hlay, Bool.and_eq_true, decide_eq_true_eq] at hlt
          exact va_recv hK g.1 (cls_el hlt.1).1 (ws_obj hlay)
        · exact hrc.elim
      · rw [r1]
        have := vk_recv hC.1 (i := b - NN) (by omega) g.2.2
        rw [show NN + (b - NN) = b by omega] at this
        exact this
    have hn : As.length + 1 = nM q := by
      rw [← a1]; rfl
    have hsig : (parseMethodDescriptor (yM q).desc).map (fun d => d.parameters.length) = some As.length := by
      cases hp : parseMethodDescriptor (yM q).desc with
      | none => rw [hp] at w4; cases w4
      | some d =>
        rw [hp] at w4
        have : d.parameters.length + 1 = nM q := Option.some.inj w4
        simp only [Option.map_some]
        congr 1
        omega
    refine am_after (rest := rest.map (cvA adr)) (Qc := Qc) (a := (Value.ref (adr b) :: As.map (cvA adr)).toArray) rfl g hl ?_ hk
    refine va_runV (own := Rn (oM mi)) (Ts := gW) (nL := lM mi) (As := As.map (cvA adr)) (C := (yM q).cls) (n := As.length) (bytes := cM q) (maxL := lM q) (ret := rM q) ⟨hx, hb, hml, hown, hts⟩ hM
      ⟨callB_of As.length hts (wM_good hq) rfl rfl rfl (hts _ hini) (hts _ w1) ⟨hn1, hn2, hsig⟩ (callee_room hq F0' hd), hts _ w2, hts _ w3⟩
      ⟨Wld.blind _, hrecv, fun U hU hW => ⟨by simp [cvA], Wld.now F0' g hU hW⟩⟩ rfl (by simp) hl.1 ?_ ?_ hdg ⟨Nat.zero_le _, Nat.zero_le _⟩
    · show st.map (cvA adr) = _
      rw [a2]
      simp [cvA]
    · refine lv_room (pc := pc) (ls := lsC) (rest := st.map (cvA adr)) ?_
      rw [cat_sum]
      exact hlen
theorem s_invokestatic {x q op : Nat} {st ar rest : List AV} {ls : AL} {M : Mm} {pc : Nat} {Qc : Option AV → Mm → Prop} (F : FxA p R s m args c D tA adr adV mi) (hdg : decode (cM mi) pc = .ok (.invokestatic x, 3)) (hi : invT (oM mi) x = some (q, op)) (hop : op = 1 ∨ op = 2) (har : am_args (nM q) st [] = some (ar, rest)) (hlen : rest.length ≤ 8) (hd : dM q < dM mi)
    (hc : CallP q ar M Qc) (hk : ∀ v M', Qc v M' → Sm p l e R s m args below meth c Q D tA adr mi (pc + 3) ls (v.toList ++ rest) M') : Sm p l e R s m args below meth c Q D tA adr mi pc ls st M := by
  intro H locs lsC g hl
  have F0' := F
  obtain ⟨hx, hb, hml, hown, hts, hK, hC, hR, hfr, hlo, ho⟩ := F
  obtain ⟨⟨p1, p2, p3, p4, hmem⟩, i1, -, i2, i3, -, -, -, -⟩ := inv_el ho hi
  obtain ⟨hq, hini⟩ := i1 (by omega)
  obtain ⟨m1, m2⟩ := meth_el hq
  simp only [okM, Bool.and_eq_true, decide_eq_true_eq] at m2
  obtain ⟨⟨⟨⟨⟨⟨-, hpl⟩, hcls⟩, hn1⟩, hn2⟩, hl30⟩, -⟩ := m2
  obtain ⟨a1, a2⟩ := am_args_el har
  simp only [List.reverse_nil, List.nil_append, List.length_nil, Nat.add_zero] at a1 a2
  have hM := hc l D tA adr adV H.size
  have w : Cond.static (yM q) ∈ gW ∧ (parseMethodDescriptor (yM q).desc).map (fun d => d.parameters.length) = some (nM q) := by
    rcases hop with h | h
    · exact (i2 h).2
    · exact i3 h
  have hsig : (parseMethodDescriptor (yM q).desc).map (fun d => d.parameters.length) = some ar.length := by rw [a1]; exact w.2
  have hst : st.map (cvA adr) = (ar.map (cvA adr)).reverse ++ rest.map (cvA adr) := by
    rw [a2]
    simp
  have hroom : 2 * (F0 m pc lsC (st.map (cvA adr))).monitorRoom + ((rest.map (cvA adr)).map fun v => v.category).sum ≤ 8 := by
    refine lv_room (pc := pc) (ls := lsC) (rest := st.map (cvA adr)) ?_
    rw [cat_sum]
    exact hlen
  refine am_after (rest := rest.map (cvA adr)) (Qc := Qc) (a := (ar.map (cvA adr)).toArray) rfl g hl ?_ hk
  rcases hop with h | h
  · exact va_runS (own := Rn (oM mi)) (Ts := gW) (nL := lM mi) (As := ar.map (cvA adr)) (n := ar.length) (bytes := cM q) (maxL := lM q) (ret := rM q) ⟨hx, hb, hml, hown, hts⟩ hM
      ⟨callB_of ar.length hts (wM_good hq) rfl rfl rfl (hts _ hini) (hts _ (i2 h).1) ⟨hn1, hn2, hsig⟩ (callee_room hq F0' hd), hts _ w.1⟩
      ⟨Wld.blind _, fun U hU hW => ⟨rfl, Wld.now F0' g hU hW⟩⟩ rfl (by simp) hl.1 hst hroom hdg ⟨Nat.zero_le _, Nat.zero_le _⟩
  · exact va_runSN (own := Rn (oM mi)) (Ts := gW) (nL := lM mi) (As := ar.map (cvA adr)) (n := ar.length) (bytes := cM q) (maxL := lM q) (ret := rM q) ⟨hx, hb, hml, hown, hts⟩ hM
      ⟨va_cnB ar.length hts (wM_good hq) rfl rfl rfl (hR.2 (oM mi) _ hmem h) (hts _ hini) ⟨hn1, hn2, hsig⟩ (callee_room hq F0' hd), hts _ w.1, trivial⟩
      ⟨Wld.blind _, fun U hU hW => ⟨rfl, Wld.now F0' g hU hW⟩⟩ rfl (by simp) hl.1 hst hroom hdg ⟨Nat.zero_le _, Nat.zero_le _⟩
theorem iN_max {x y : Int} (hx : inR x) (hy : inR y) : (if iN x < iN y then iN y else iN x) = iN (max x y) := by
  by_cases h : x < y
  · rw [if_pos ((iN_lt hx hy).mpr h), show max x y = y by omega]
  · rw [if_neg (fun z => h ((iN_lt hx hy).mp z)), show max x y = x by omega]
theorem iN_min {x y : Int} (hx : inR x) (hy : inR y) : (if iN y < iN x then iN y else iN x) = iN (min x y) := by
  by_cases h : y < x
  · rw [if_pos ((iN_lt hy hx).mpr h), show min x y = y by omega]
  · rw [if_neg (fun z => h ((iN_lt hy hx).mp z)), show min x y = x by omega]
theorem iN_abs {x : Int} (hx : inR x) : (if 0 ≤ iN x then iN x else 0 - iN x) = iN (max x (-x)) := by
  by_cases h : 0 ≤ x
  · rw [if_pos ((inR_ge hx).mpr h), show max x (-x) = x by omega]
  · rw [if_neg (fun z => h ((inR_ge hx).mp z)), show max x (-x) = 0 - x by omega, ← iN_sub]
    rfl
theorem s_max {x q : Nat} {a b : Int} {r : List AV} {ls : AL} {M : Mm} {pc : Nat} (F : FxA p R s m args c D tA adr adV mi) (hdg : decode (cM mi) pc = .ok (.invokestatic x, 3)) (hi : invT (oM mi) x = some (q, 3)) (hd : 1 ≤ dM mi) (ha : inR a) (hb' : inR b) (hlen : r.length ≤ 8)
    (hk : Sm p l e R s m args below meth c Q D tA adr mi (pc + 3) ls (.inl (max a b) :: r) M) : Sm p l e R s m args below meth c Q D tA adr mi pc ls (.inl b :: .inl a :: r) M := by
  intro H locs lsC g hl
  obtain ⟨hx, hb, hml, hown, hts, hK, hC, hR, hfr, hlo, ho⟩ := F
  obtain ⟨-, -, -, -, -, i0, i1, -, -⟩ := inv_el ho hi
  obtain ⟨w1, w2, w3⟩ := i1 rfl
  refine va_mmax hx hb (by rw [hml, hl.1]) hown (hts _ w1) (hts _ w2) (hts _ (i0 (by omega))) (hts _ w3) (by omega) (by rw [cat_sum]; omega) (Nat.zero_le _) (Nat.zero_le _) hdg ?_
  rw [iN_max ha hb']
  exact hk H locs lsC g hl
theorem s_min {x q : Nat} {a b : Int} {r : List AV} {ls : AL} {M : Mm} {pc : Nat} (F : FxA p R s m args c D tA adr adV mi) (hdg : decode (cM mi) pc = .ok (.invokestatic x, 3)) (hi : invT (oM mi) x = some (q, 4)) (hd : 1 ≤ dM mi) (ha : inR a) (hb' : inR b) (hlen : r.length ≤ 8)
    (hk : Sm p l e R s m args below meth c Q D tA adr mi (pc + 3) ls (.inl (min a b) :: r) M) : Sm p l e R s m args below meth c Q D tA adr mi pc ls (.inl b :: .inl a :: r) M := by
  intro H locs lsC g hl
  obtain ⟨hx, hb, hml, hown, hts, hK, hC, hR, hfr, hlo, ho⟩ := F
  obtain ⟨-, -, -, -, -, i0, -, i1, -⟩ := inv_el ho hi
  obtain ⟨w1, w2, w3⟩ := i1 rfl
  refine va_mmin hx hb (by rw [hml, hl.1]) hown (hts _ w1) (hts _ w2) (hts _ (i0 (by omega))) (hts _ w3) (by omega) (by rw [cat_sum]; omega) (Nat.zero_le _) (Nat.zero_le _) hdg ?_
  rw [iN_min ha hb']
  exact hk H locs lsC g hl
theorem s_abs {x q : Nat} {a : Int} {r : List AV} {ls : AL} {M : Mm} {pc : Nat} (F : FxA p R s m args c D tA adr adV mi) (hdg : decode (cM mi) pc = .ok (.invokestatic x, 3)) (hi : invT (oM mi) x = some (q, 5)) (hd : 1 ≤ dM mi) (ha : inR a) (hlen : r.length ≤ 8)
    (hk : Sm p l e R s m args below meth c Q D tA adr mi (pc + 3) ls (.inl (max a (-a)) :: r) M) : Sm p l e R s m args below meth c Q D tA adr mi pc ls (.inl a :: r) M := by
  intro H locs lsC g hl
  obtain ⟨hx, hb, hml, hown, hts, hK, hC, hR, hfr, hlo, ho⟩ := F
  obtain ⟨-, -, -, -, -, i0, -, -, i1⟩ := inv_el ho hi
  obtain ⟨w1, w2, w3⟩ := i1 rfl
  refine va_mabs hx hb (by rw [hml, hl.1]) hown (hts _ w1) (hts _ w2) (hts _ (i0 (by omega))) (hts _ w3) (by omega) (by rw [cat_sum]; omega) (Nat.zero_le _) (Nat.zero_le _) hdg ?_
  rw [iN_abs ha]
  exact hk H locs lsC g hl
theorem ldi_el {o x : Nat} {v : Int} (ho : o < 14) (h : ldcT o x = some (.inl v)) : Cond.constant (Rn o) x (iN v) ∈ gW := by
  unfold ldcT at h
  split at h
  · rename_i r h1
    cases h
    have hx : r.1 = x := by have := List.find?_some h1; simpa using this
    have hm := List.mem_of_find?_eq_some h1
    have h2 := List.all_eq_true.mp (List.all_eq_true.mp tb_ldi o (List.mem_range.mpr ho)) _ hm
    simp only [okD, Bool.and_eq_true, decide_eq_true_eq] at h2
    rw [← hx]
    exact gW_at h2.1 h2.2
  · simp only [Option.map_eq_some_iff] at h
    obtain ⟨a, -, h⟩ := h
    cases h
theorem lds_el {o x a : Nat} (h : ldcT o x = some (.inr a)) : ∃ r, r ∈ strL o ∧ r.1 = x ∧ a = NN + r.2.2 := by
  unfold ldcT at h
  split at h
  · cases h
  · simp only [Option.map_eq_some_iff] at h
    obtain ⟨r, h1, h2⟩ := h
    cases h2
    have hx : r.1 = x := by have := List.find?_some h1; simpa using this
    exact ⟨r, List.mem_of_find?_eq_some h1, hx, rfl⟩
theorem s_ldc {x : Nat} {v : AV} {ls : AL} {r : List AV} {M : Mm} {pc : Nat} (F : FxA p R s m args c D tA adr adV mi) (hdg : decode (cM mi) pc = .ok (.ldc x, 2)) (h : ldcT (oM mi) x = some v)
    (hk : Sm p l e R s m args below meth c Q D tA adr mi (pc + 2) ls (v :: r) M) : Sm p l e R s m args below meth c Q D tA adr mi pc ls r M := by
  intro H locs lsC g hl
  have hk' := hk H locs lsC g hl
  obtain ⟨hx, hb, hml, hown, hts, hK, hC, hR, hfr, hlo, ho⟩ := F
  match v, h with
  | .inl v, h => exact lv_ldc hx hb hown (hts _ (ldi_el ho h)) hdg hk'
  | .inr a, h =>
    obtain ⟨q, h1, rfl, rfl⟩ := lds_el h
    exact va_ldcS hx hb hown (hR.1 (oM mi) q h1) hdg hk'
theorem s_ldcw {x : Nat} {v : Int} {ls : AL} {r : List AV} {M : Mm} {pc : Nat} (F : FxA p R s m args c D tA adr adV mi) (hdg : decode (cM mi) pc = .ok (.ldc_w x, 3)) (h : ldcT (oM mi) x = some (.inl v))
    (hk : Sm p l e R s m args below meth c Q D tA adr mi (pc + 3) ls (.inl v :: r) M) : Sm p l e R s m args below meth c Q D tA adr mi pc ls r M := by
  intro H locs lsC g hl
  have hk' := hk H locs lsC g hl
  obtain ⟨hx, hb, hml, hown, hts, hK, hC, hR, hfr, hlo, ho⟩ := F
  exact lv_ldcw hx hb hown (hts _ (ldi_el ho h)) hdg hk'
end CLL
