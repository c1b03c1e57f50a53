/-! THE LAW, 9: its first instructions: a class, a reference, a row of one number. -/
theorem len_11 {tA : Nat → ClassId} {q : Nat} : (Lf11 tA q).length = 156 := by
  simp only [Lf11, List.length_append, List.length_cons, List.length_nil, len_5, len_0, len_10, len_2, len_9, len_13, len_8, len_3, len_4, Nat.reduceAdd]
theorem len_12 {ks : Nat → Nat} {tA : Nat → ClassId} {q : Nat} : (Lf12 ks tA q).length = 37 := rfl
theorem g11_76 {tA : Nat → ClassId} {q : Nat} : (Lf11 tA q)[76]? = (Lf13 tA (q + 76))[0]? := by
  simp only [Lf11, List.getElem?_append, List.length_append, List.length_cons, List.length_nil, len_5, len_0, len_10, len_2, len_9, len_13, len_8, len_3, len_4, ln_Lf7, ln_Lf1, ln_Lf6_24, ln_Lf6_924, Nat.reduceAdd, Nat.reduceLT, Nat.reduceSub, ↓reduceIte, Nat.reduceLeDiff]
theorem g11_77 {tA : Nat → ClassId} {q : Nat} : (Lf11 tA q)[77]? = (Lf13 tA (q + 76))[1]? := by
  simp only [Lf11, List.getElem?_append, List.length_append, List.length_cons, List.length_nil, len_5, len_0, len_10, len_2, len_9, len_13, len_8, len_3, len_4, ln_Lf7, ln_Lf1, ln_Lf6_24, ln_Lf6_924, Nat.reduceAdd, Nat.reduceLT, Nat.reduceSub, ↓reduceIte, Nat.reduceLeDiff]
theorem wsL_pre {D : va_G} {cl : List vw_C} {b : Nat} {L1 L2 : List va_E} {H : Heap} (h : va_P D cl (wsL b (L1 ++ L2)) H) : va_P D cl (wsL b L1) H := fun k q hk => by
  rw [wsL_at] at hk
  obtain ⟨x, hx, rfl⟩ := Option.map_eq_some_iff.mp hk
  have hlt : k < L1.length := (List.getElem?_eq_some_iff.mp hx).1
  exact h k (b + k, x) (by rw [wsL_at, List.getElem?_append_left hlt, hx]; rfl)
theorem wsL_suf {D : va_G} {cl : List vw_C} {b c : Nat} {L1 L2 : List va_E} {H : Heap} (hc : b + L1.length = c) (h : va_P D cl (wsL b (L1 ++ L2)) H) : va_P D cl (wsL c L2) H := fun k q hk => by
  subst hc
  rw [wsL_at] at hk
  obtain ⟨x, hx, rfl⟩ := Option.map_eq_some_iff.mp hk
  have h2 := h (L1.length + k) (b + (L1.length + k), x) (by rw [wsL_at, List.getElem?_append_right (by omega), show L1.length + k - L1.length = k by omega, hx]; rfl)
  rw [← Nat.add_assoc] at h2
  exact h2
section L9
variable {p : Program} {l : Launch} {e : Env} {R : Room} {s : State} {m : MethodId} {args : Array Value} {below : List Frame} {meth : Method} {c : Code} {Q : State → Prop}
variable {D : va_G} {tA : Nat → ClassId} {b n0 : Nat} {nL : Nat} {cc : ByteArray} {L : List va_E} {H : Heap} {locs : List Loc} {cells slots pc : Nat} {ls : Array Slot} {rest : List Value}
def CXl (p : Program) (s : State) (m : MethodId) (args : Array Value) (c : Code) (D : va_G) (tA : Nat → ClassId) (nL : Nat) (cc : ByteArray) : Prop := p.tables.exec = Jvm.exec ∧ c.code = cc ∧ c.maxLocals = nL ∧ s.vm.findClass lwN = some m.cls ∧ (∀ w ∈ gW, w.before args s = true) ∧ va_K D clA (tysA tA) s ∧ Wc D tA s
theorem lc_new {ci index : Nat} (X : CXl p s m args c D tA nL cc) (hci : ci < 13) (g : CG D b s L H locs) (hcl : Cond.classLink lwN index (Rn ci) ∈ gW) (hins : Cond.instantiable (Rn ci) (Nc ci) ∈ gW) (hini : Cond.initialized (Rn ci) ∈ gW) (hc : cells + 1 ≤ R.cells) (hs : slots + Nc ci ≤ R.slots) (hdg : decode cc pc = .ok (.new index, 3))
    (kk : ∀ H1, CG D b s (L ++ [.inr (ci, dfl ci)]) H1 locs → W p l e R s m args below meth c H1 locs (cells + 1) (slots + Nc ci) Q (F0 m (pc + 3) ls (.ref (b + L.length) :: rest))) : W p l e R s m args below meth c H locs cells slots Q (F0 m pc ls rest) := by
  obtain ⟨hx, hb, hml, hown, hw, hK, hwc⟩ := X
  obtain ⟨c1, c2⟩ := cls_el hci
  obtain ⟨tyf, t1, t2⟩ := tyc_el hci
  have hKn := hK.1 ci _ c1
  refine W.newcK hx hb hown (hw _ hcl) (hw _ hins) (hw _ hini) (g := F0 m pc ls rest) rfl hdg hc hs hKn.2.1 rfl fun H1 kC hkC e1 z1 o1 => ?_
  have hat : va_at D clA (H.size, .inr (ci, dfl ci)) H1 := by
    refine ⟨_, c1, (u_born tyf hw c2 hKn hkC e1 t1).to (fun j hj => ?_)⟩
    have hj' : j < Nc ci := hj
    show _ = vp_V (dfl ci) j
    simp only [vp_V, dfl, List.getD_eq_getElem?_getD, List.getElem?_map, List.getElem?_range hj', Option.map_some, Option.getD_some, t1 j hj']
  have K := kk H1 ⟨g.1.push z1 o1 hat, vS_push g.2 z1 o1⟩
  rw [← g.1.1] at K
  exact K
theorem lc_callE {ci index nL2 fr lo mc ms : Nat} {y : MethodName} {c2 : ByteArray} {av st0 : List Value} {Lf : (Nat → ClassId) → Nat → List va_E} {E : Nat → State → Prop} (hC : CtorE y c2 nL2 fr lo mc ms av ci Lf E) (hbl : ∀ q U U', U'.vm = U.vm → U'.heap = U.heap → E q U → E q U') (hE : ∀ U : State, U.heap = H → s.WarmedH U.vm → E (b + L.length) U) (X : CXl p s m args c D tA nL cc) (g : CG D b s (L ++ [.inr (ci, dfl ci)]) H locs) (hlink : Cond.methodLink lwN index y ∈ gW) (hini : Cond.initialized y.cls ∈ gW) (hinst : Cond.instanceMethod y ∈ gW) (hcode : Cond.code y c2 nL2 none ∈ gW) (hy : y.name = "<init>")
    (hd : y.cls ≠ "java/lang/invoke/MethodHandle" ∧ y.cls ≠ "java/lang/invoke/VarHandle" ∧ (parseMethodDescriptor y.desc).map (fun d => d.parameters.length) = some av.length) (hR : fr + 1 ≤ R.frames ∧ 8 + (nL2 + 11) + lo ≤ R.locals) (hf : cells + mc ≤ R.cells ∧ slots + ms ≤ R.slots) (hls : ls.size = nL) (hrest : (rest.map fun v => v.category).sum ≤ 8) (hst : st0 = av.reverse ++ .ref (b + L.length) :: rest) (hdg : decode cc pc = .ok (.invokespecial index, 3))
    (kk : ∀ H1 locs1, CG D b s (L ++ Lf tA (b + L.length)) H1 locs1 → W p l e R s m args below meth c H1 locs1 (cells + mc) (slots + ms) Q (F0 m (pc + 3) ls rest)) : W p l e R s m args below meth c H locs cells slots Q (F0 m pc ls st0) := by
  obtain ⟨hx, hb, hml, hown, hw, hK, hwc⟩ := X
  have hgood : GoodIn gW (Cond.code y c2 nL2 none :: gW) := by
    intro w hw
    rcases List.mem_cons.mp hw with rfl | hw
    · exact ⟨hcode, good_of_word (List.mem_filter.mp hcode).2⟩
    · exact ⟨hw, good_of_word (List.mem_filter.mp hw).2⟩
  have hbd : FrameBlind (va_Pc (.ref (b + L.length) :: av) (fun U => CPre D tA (b + L.length) ci U ∧ E (b + L.length) U)) := by
    intro a U g mk ⟨h, ⟨h1, h2, h3⟩, h4⟩
    exact ⟨h, ⟨h1, va_K.moved (u := U) (U := U.calling g mk a) (Vm.Alike.refl U.vm) h2, Wc.same (u := U) (U := U.calling g mk a) rfl h3⟩, hbl _ U (U.calling g mk a) rfl rfl h4⟩
  refine c_after g (va_runI (own := lwN) (Ts := gW) (nL := nL) (As := av) (n := av.length) ⟨hx, hb, hml, hown, hw⟩ (hC l D tA (b + L.length)) ⟨callB_of av.length hw hgood rfl rfl rfl (hw _ hini) (hw _ hlink) hd hR, hy, hw _ hinst⟩ ⟨hbd, fun U hU hW => ⟨rfl, ⟨⟨?_, ?_⟩, va_K.moved hW.alike hK, hwc.warm hW⟩, hE U hU hW⟩⟩ rfl rfl hls hst (lv_room (pc := pc) (ls := ls) (rest := st0) hrest) hdg hf) kk
  · rw [hU, g.1.1, List.length_append]
    show b + (L.length + 1) = b + L.length + 1
    omega
  · rw [hU]
    intro k z hz
    rw [wsL_at] at hz
    obtain ⟨x, hx, rfl⟩ := Option.map_eq_some_iff.mp hz
    have h0 : k < 1 := (List.getElem?_eq_some_iff.mp hx).1
    rw [show k = 0 by omega] at hx ⊢
    cases hx
    exact g.1.2 L.length _ (by rw [wsL_at, List.getElem?_append_right (Nat.le_refl _), Nat.sub_self]; rfl)
theorem lc_newaL (X : CXl p s m args c D tA nL cc) (g : CG D b s L H locs) (hc : cells + 1 ≤ R.cells) (hs : slots + 1 ≤ R.slots) (hdg : decode cc pc = .ok (.newarray .long, 2)) (hwi : Cond.arrayClass .long ∈ gW)
    (kk : ∀ H1, CG D b s (L ++ [.inl (tA 5, (1, .inr (.inl (fun _ => 0))))]) H1 locs → W p l e R s m args below meth c H1 locs (cells + 1) (slots + 1) Q (F0 m (pc + 2) ls (.ref (b + L.length) :: rest))) : W p l e R s m args below meth c H locs cells slots Q (F0 m pc ls (.int (iN 1) :: rest)) := by
  obtain ⟨hx, hb, hml, hown, hw, hK, hwc⟩ := X
  refine va_newaK (atype := .long) hx hb (hw _ hwi) (g := F0 m pc ls (.int (iN 1) :: rest)) rfl hdg rfl (by decide) (show (iN 1).toNatClampNeg = 1 by decide) (by show 1 * 8 ≤ _; omega) hc hs rfl (fun H1 cA e1 z1 o1 _ hN => ?_)
  have hA : cA = tA 5 := by
    have h2 : s.vm.findClass ("[" ++ FieldType.long.toString) = some (tA 5) := (hwc.2.2.2.2 1 _ rfl).2
    exact Option.some.inj (hN.symm.trans h2)
  subst hA
  have K := kk H1 ⟨g.1.push z1 o1 e1, vS_push g.2 z1 o1⟩
  rw [← g.1.1] at K
  exact K
theorem ES_same {ks : Nat → Nat} {q : Nat} {U U' : State} (h1 : U'.vm = U.vm) (h2 : U'.heap = U.heap) (h : ES ks q U) : ES ks q U' := by
  have e : U.vm.Alike U'.vm := by rw [h1]; exact Vm.Alike.refl _
  refine ⟨fun i hi => ?_, fun r hr => (h.2 r hr).same h1⟩
  rw [h2]
  exact va_O.moved e (h.1 i hi)
theorem ES.at {ks : Nat → Nat} {b2 : Nat} (h : ES ks b s) (hb : b ≤ b2) (g : CG D b s L H locs) {U : State} (hU : U.heap = H) (hW : s.WarmedH U.vm) : ES ks b2 U := by
  refine ⟨fun i hi => ?_, fun r hr => (h.2 r hr).warm hW⟩
  rw [hU]
  exact ((va_O.moved hW.alike (h.1 i hi)).kept g.2.2.1).narrow (fun q hq => Nat.le_trans hb hq)
theorem adr_str {ks : Nat → Nat} {i : Nat} (hi : i < 7) : adrF ks b (NN + i) = ks i := by
  have e : NN = 191 := rfl
  rw [e]
  unfold adrF
  rw [if_neg (by omega), if_neg (by omega), if_neg (by omega), show 191 + i - 191 = i by omega]
theorem adrF_LM {ks : Nat → Nat} : LM n0 (n0 + 193) (n0 + 76) (adrF ks n0) := by
  have e : NN = 191 := rfl
  refine ⟨⟨by omega, by omega, by omega⟩, fun a ha => ?_, fun i j hi hj h => adr_inj hi hj h, ?_⟩
  · rcases Nat.lt_or_ge a 76 with h | h
    · rw [adr_lo h]; omega
    · rw [adr_hi h (by omega)]; omega
  · unfold adrF
    rw [if_neg (by omega), if_neg (by omega), if_pos rfl]
/-- the first world -/
theorem LH_0 {ks : Nat → Nat} {o1 : Nat → Int64} (g : CG D n0 s (Lf11 tA n0 ++ Lf12 ks tA (n0 + 156) ++ [.inl (tA 5, (1, .inr (.inl o1)))]) H locs) : LH D tA n0 (n0 + 193) (n0 + 76) (adrF ks n0) M00 o1 H := by
  have e : NN = 191 := rfl
  have h1 := wsL_pre (wsL_pre g.1.2)
  have h2 := wsL_suf (c := n0 + 156) (by rw [len_11]) (wsL_pre g.1.2)
  have h3 := wsL_suf (c := n0 + 193) (by rw [List.length_append, len_11, len_12]) g.1.2
  have b1 := h1 76 _ (by rw [wsL_at, g11_76]; rfl)
  have b2 := h1 77 _ (by rw [wsL_at, g11_77]; rfl)
  refine ⟨by rw [g.1.1]; omega, w0_P h1 h2, h3 0 _ (by rw [wsL_at]; rfl), n0 + 77, 16, 0, 0, fun _ => 0, ⟨by omega, by omega, by omega, fun a ha => ?_⟩, ⟨.inl rfl, by omega, fun j => ⟨Int.le_refl 0, by show (0 : Int) ≤ 127; omega⟩⟩, b1, b2⟩
  rcases Nat.lt_or_ge a 76 with h | h
  · rw [adr_lo h]; omega
  · rw [adr_hi h (by omega)]; omega
theorem lk_n11 : Cond.classLink lwN 8 (Rn 11) ∈ gW := gW_of (by decide +kernel) rfl
theorem lk_n12 : Cond.classLink lwN 63 (Rn 12) ∈ gW := gW_of (by decide +kernel) rfl
theorem lk_in11 : Cond.instantiable (Rn 11) (Nc 11) ∈ gW := gW_of (by decide +kernel) rfl
theorem lk_in12 : Cond.instantiable (Rn 12) (Nc 12) ∈ gW := gW_of (by decide +kernel) rfl
theorem lk_i11 : Cond.initialized (Rn 11) ∈ gW := gW_of (by decide +kernel) rfl
theorem lk_i12 : Cond.initialized (Rn 12) ∈ gW := gW_of (by decide +kernel) rfl
theorem lk_m11 : Cond.methodLink lwN 62 ⟨Rn 11, "<init>", "()V"⟩ ∈ gW := gW_of (by decide +kernel) rfl
theorem lk_m12 : Cond.methodLink lwN 65 ⟨Rn 12, "<init>", "()V"⟩ ∈ gW := gW_of (by decide +kernel) rfl
theorem lk_s11 : Cond.instanceMethod ⟨Rn 11, "<init>", "()V"⟩ ∈ gW := gW_of (by decide +kernel) rfl
theorem lk_s12 : Cond.instanceMethod ⟨Rn 12, "<init>", "()V"⟩ ∈ gW := gW_of (by decide +kernel) rfl
theorem lk_c11 : Cond.code ⟨Rn 11, "<init>", "()V"⟩ prog_1_method_1_code 1 none ∈ gW := gW_of (by decide +kernel) rfl
theorem lk_c12 : Cond.code ⟨Rn 12, "<init>", "()V"⟩ prog_14_method_1_code 1 none ∈ gW := gW_of (by decide +kernel) rfl
theorem lk_al : Cond.arrayClass .long ∈ gW := gW_of (by decide +kernel) rfl
set_option maxHeartbeats 4000000 in
set_option maxRecDepth 100000 in
theorem law_start {L : Nat} {xs : Nat → Int32} {ks adV : Nat → Nat} (X : CXl p s m args c D tA 7 code) (hfl : l.stackTraces = false) (hvS : vk_S 7 strLen strByt ks adV (fun q => s.heap.size ≤ q) s s.heap) (hvR : ∀ o r, r ∈ strL o → vk_R (Rn o) r.1 r.2.1 (ks r.2.2) s)
    (hz1 : va_Z "java/lang/String" "COMPACT_STRINGS" "Z" (.int 1) (fun q => s.heap.size ≤ q) s s.heap) (hz2 : vx_Zq "jdk/internal/util/Preconditions" "SIOOBE_FORMATTER" "Ljava/util/function/BiFunction;" (fun q => s.heap.size ≤ q) s s.heap) (hz3 : vx_Zq Bundle.tN "UNASSIGNED_STACK" Bundle.steD (fun q => s.heap.size ≤ q) s s.heap) (hz4 : vx_Zq Bundle.tN "SUPPRESSED_SENTINEL" Bundle.listD (fun q => s.heap.size ≤ q) s s.heap)
    (hD : Dcl s) (hN : ∀ o r, r ∈ invL o → r.2.2.1 = 2 → va_Nw (.methodLinkNest (Rn o) r.1 (yM r.2.1) "RingDater") s) (hNc : va_Nc (excN 1) (excN 0) s) (hDG : DG (fun q => s.heap.size ≤ q) s s.heap) (hPV : PV s) (hX : va_X b L xs s s.heap) (hbl : b < s.heap.size) (h3 : L ≤ 3072)
    (hend : ∀ (H : Heap) (locs : List Loc) (cells slots : Nat) (ls : Array Slot), LV s.heap.size s H locs → cells ≤ 601024 → slots ≤ 7293034 → W p l e room_1 s m args below meth c H locs cells slots Q (F0 m 1661 ls [])) (hl : lv_has ls 7 [(0, .ref b)]) :
    W p l e room_1 s m args below meth c s.heap [] 0 0 Q (F0 m 0 ls []) := by
  generalize hn0 : s.heap.size = n0 at *
  have g0 : CG D n0 s [] s.heap [] := ⟨⟨by rw [hn0]; rfl, fun k y hy => by simp [wsL] at hy⟩, va_S.rf⟩
  have hE0 : EZ n0 s := hz1
  have hS0 : ES ks n0 s := ⟨fun i hi => (hvS.1 i (by omega)).1, fun r hr => hvR 12 r hr⟩
  refine lc_new (ci := 11) X (by decide) g0 lk_n11 lk_in11 lk_i11 (by decide) (by decide) dw_law_0 (fun H1 g1 => ?_)
  refine lv_dup X.1 X.2.1 dw_law_3 rfl ?_
  refine lc_callE (L := []) (rest := [.ref n0]) ct_11 (fun q U U' h1 h2 h => EZ_same h1 h2 h) (fun U hU hW => hE0.at (Nat.le_refl _) g1 hU hW) X g1 lk_m11 lk_i11 lk_s11 lk_c11 rfl ⟨by decide, by decide, by decide⟩ ⟨by decide, by decide⟩ ⟨by decide, by decide⟩ hl.1 (by simp [Value.category]) rfl dw_law_4 (fun H2 lc2 g2 => ?_)
  have g2 : CG D n0 s (Lf11 tA n0) H2 lc2 := g2
  refine lv_astore_n (i := 1) (lv' := [(1, .ref n0), (0, .ref b)]) X.1 X.2.1 dw_law_7 rfl hl (by decide) rfl (fun ls1 hl1 => ?_)
  refine lc_new (ci := 12) X (by decide) g2 lk_n12 lk_in12 lk_i12 (by decide) (by decide) dw_law_8 (fun H3 g3 => ?_)
  refine lv_dup X.1 X.2.1 dw_law_11 rfl ?_
  refine lc_callE (L := Lf11 tA n0) (rest := [.ref (n0 + (Lf11 tA n0).length)]) (ct_12 ks) (fun q U U' h1 h2 h => ES_same h1 h2 h) (fun U hU hW => hS0.at (by omega) g3 hU hW) X g3 lk_m12 lk_i12 lk_s12 lk_c12 rfl ⟨by decide, by decide, by decide⟩ ⟨by decide, by decide⟩ ⟨by decide, by decide⟩ hl1.1 (by simp [Value.category]) rfl dw_law_12 (fun H4 lc4 g4 => ?_)
  rw [len_11] at g4 ⊢
  refine lv_astore_n (i := 2) (lv' := [(2, .ref (n0 + 156)), (1, .ref n0), (0, .ref b)]) X.1 X.2.1 dw_law_15 rfl hl1 (by decide) rfl (fun ls2 hl2 => ?_)
  refine lv_iconst (v := iN 1) X.1 X.2.1 dw_law_16 (by decide) ?_
  refine lc_newaL X g4 (by decide) (by decide) dw_law_17 lk_al (fun H5 g5 => ?_)
  rw [List.length_append, len_11, len_12]
  refine lv_astore_n (i := 3) (lv' := [(3, .ref (n0 + 193)), (2, .ref (n0 + 156)), (1, .ref n0), (0, .ref b)]) X.1 X.2.1 dw_law_19 rfl hl2 (by decide) rfl (fun ls3 hl3 => ?_)
  refine lv_iconst (v := iN 0) X.1 X.2.1 dw_law_20 (by decide) ?_
  refine lv_istore (lv' := [(4, .int (iN 0)), (3, .ref (n0 + 193)), (2, .ref (n0 + 156)), (1, .ref n0), (0, .ref b)]) X.1 X.2.1 dw_law_21 hl3 (by decide) rfl (fun ls4 hl4 => ?_)
  have a0 : adrF ks n0 0 = n0 := by rw [adr_lo (by decide)]; rfl
  have a154 : adrF ks n0 154 = n0 + 156 := by rw [adr_hi (by decide) (by decide)]
  have hl5 : lv_has ls4 7 (lvB b (n0 + 193) (adrF ks n0) (6 * 0)) := by
    have h := lv_sub hl4 [4, 3, 2, 1, 0] rfl
    show lv_has ls4 7 [(0, .ref b), (1, .ref (adrF ks n0 0)), (2, .ref (adrF ks n0 154)), (3, .ref (n0 + 193)), (4, .int (iN ((6 * 0 : Nat) : Int)))]
    rw [a0, a154]
    exact h
  have hSt : Stc (adrF ks n0) adV (fun q => n0 ≤ q) s s.heap := by
    refine ⟨⟨fun i hi => ?_, fun i j hi hj h => ?_⟩, ⟨hz1, hz2⟩, hz3, hz4⟩
    · show va_O "java/lang/String" (adrF ks n0 (NN + i)) _ s s.heap ∧ va_OF "java/lang/String" "coder" "B" (.int 0) (adrF ks n0 (NN + i)) _ s s.heap ∧ va_OF "java/lang/String" "value" "[B" (.ref (adV i)) (adrF ks n0 (NN + i)) _ s s.heap ∧ _
      rw [adr_str hi]
      exact hvS.1 i hi
    · have h : adrF ks n0 (NN + i) = adrF ks n0 (NN + j) := h
      rw [adr_str hi, adr_str hj] at h
      exact hvS.2 i j hi hj h
  have hSr : Strs (adrF ks n0) s := by
    refine ⟨fun o r hr => ?_, hN⟩
    have hb7 : r.2.2 < 7 := by
      rcases Nat.lt_or_ge o 14 with ho | ho
      · exact (show ∀ o, o < 14 → ∀ r ∈ strL o, r.2.2 < 7 by decide) o ho r hr
      · obtain ⟨k, rfl⟩ : ∃ k, o = k + 14 := ⟨o - 14, by omega⟩
        exact absurd hr List.not_mem_nil
    rw [adr_str hb7]
    exact hvR o r hr
  have C : LCx p s m args c D tA n0 (n0 + 193) (n0 + 76) (adrF ks n0) adV b L xs := ⟨⟨X.1, X.2.1, X.2.2.1, X.2.2.2.1, X.2.2.2.2.1⟩, adrF_LM, ⟨⟨X.2.2.2.2.2.1, X.2.2.2.2.2.2.2.2.2⟩, hSt, hSr, hD, hNc, hDG, hPV⟩, hX, ⟨by omega, hn0.symm⟩, h3⟩
  exact law_loop C hfl hend 513 0 M00 (fun _ => 0) H5 lc4 _ _ ls4 (by omega) (by omega) Rel_0 (LH_0 g5) (by rw [← hn0] at g5 ⊢; exact g5.2) hl5 (by decide) (by decide)
end L9
