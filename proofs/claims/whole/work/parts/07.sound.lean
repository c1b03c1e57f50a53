/-! SOUNDNESS: a run of the abstract machine is a run of the machine. -/
theorem k1_el {st : List AV} {f : Int → List AV → Prop} (h : k1 st f) : ∃ x r, st = .inl x :: r ∧ f x r := by
  match st, h with
  | .inl x :: r, h => exact ⟨x, r, rfl, h⟩
theorem k2_el {st : List AV} {f : Int → Int → List AV → Prop} (h : k2 st f) : ∃ x y r, st = .inl y :: .inl x :: r ∧ f x y r := by
  match st, h with
  | .inl y :: .inl x :: r, h => exact ⟨x, y, r, rfl, h⟩
theorem kr_el {st : List AV} {f : Nat → List AV → Prop} (h : kr st f) : ∃ a r, st = .inr a :: r ∧ f a r := by
  match st, h with
  | .inr a :: r, h => exact ⟨a, r, rfl, h⟩
theorem kri_el {st : List AV} {f : Nat → Int → List AV → Prop} (h : kri st f) : ∃ a i r, st = .inl i :: .inr a :: r ∧ f a i r := by
  match st, h with
  | .inl i :: .inr a :: r, h => exact ⟨a, i, r, rfl, h⟩
theorem krii_el {st : List AV} {f : Nat → Int → Int → List AV → Prop} (h : krii st f) : ∃ a i x r, st = .inl x :: .inl i :: .inr a :: r ∧ f a i x r := by
  match st, h with
  | .inl x :: .inl i :: .inr a :: r, h => exact ⟨a, i, x, r, rfl, h⟩
theorem kv_el {st : List AV} {f : AV → List AV → Prop} (h : kv st f) : ∃ v r, st = v :: r ∧ f v r := by
  match st, h with
  | v :: r, h => exact ⟨v, r, rfl, h⟩
theorem kvv_el {st : List AV} {f : AV → AV → List AV → Prop} (h : kvv st f) : ∃ v w r, st = v :: w :: r ∧ f v w r := by
  match st, h with
  | v :: w :: r, h => exact ⟨v, w, r, rfl, h⟩
theorem kO_el {α : Type} {o : Option α} {f : α → Prop} (h : kO o f) : ∃ x, o = some x ∧ f x := by
  match o, h with
  | some x, h => exact ⟨x, rfl, h⟩
theorem kI_el {o : Option AV} {f : Int → Prop} (h : kI o f) : ∃ x, o = some (.inl x) ∧ f x := by
  match o, h with
  | some (.inl x), h => exact ⟨x, rfl, h⟩
theorem kR_el {o : Option AV} {f : Nat → Prop} (h : kR o f) : ∃ x, o = some (.inr x) ∧ f x := by
  match o, h with
  | some (.inr x), h => exact ⟨x, rfl, h⟩
theorem kA_el {L : LC} {t : Nat} {f : Nat → Prop} (h : kA L t f) : ∃ n, L = .inl (t, n) ∧ f n := by
  match L, h with
  | .inl (t', n), h => exact ⟨n, by rw [h.1], h.2⟩
theorem kQ_el {L : LC} {f : List Nat → Prop} (h : kQ L f) : ∃ t rs, L = .inr (.inr (t, rs)) ∧ f rs := by
  match L, h with
  | .inr (.inr (t, rs)), h => exact ⟨t, rs, rfl, h⟩
theorem cvA_cat (adr : Nat → Nat) (v : AV) : (cvA adr v).category = 1 := by
  cases v <;> rfl
theorem cat_sum (adr : Nat → Nat) (st : List AV) : ((st.map (cvA adr)).map fun v => v.category).sum = st.length := by
  induction st with
  | nil => rfl
  | cons a l ih => simp only [List.map_cons, List.sum_cons, cvA_cat, ih, List.length_cons]; omega
theorem am_st_el : ∀ {l : AL} {i : Nat} {v : AV} {l' : AL}, am_st l i v = some l' → i < l.length ∧ l'.length = l.length ∧ ∀ j, am_ld l' j = if j = i then some v else am_ld l j
  | [], _, _, _, h => by simp [am_st] at h
  | a :: l, 0, v, l', h => by
    simp only [am_st, Option.some.injEq] at h
    subst h
    refine ⟨by simp, rfl, fun j => ?_⟩
    cases j <;> simp [am_ld]
  | a :: l, i + 1, v, l', h => by
    simp only [am_st, Option.map_eq_some_iff] at h
    obtain ⟨l1, h1, h2⟩ := h
    subst h2
    obtain ⟨g1, g2, g3⟩ := am_st_el h1
    refine ⟨by simp; omega, by simp [g2], fun j => ?_⟩
    cases j with
    | zero => simp [am_ld]
    | succ j => simp [am_ld, g3 j]
theorem am_ld_lt : ∀ {l : AL} {i : Nat} {v : AV}, am_ld l i = some v → i < l.length
  | [], _, _, h => by simp [am_ld] at h
  | _ :: _, 0, _, _ => by simp
  | a :: l, i + 1, v, h => by
    have := am_ld_lt (l := l) (i := i) (v := v) h
    simp
    exact this
/-- the locals are the abstract ones, as far as these are known -/
def LOK (adr : Nat → Nat) (nL : Nat) (ls : Array Slot) (ab : AL) : Prop := ls.size = nL ∧ lv_wf ls ∧ ab.length = nL ∧ ∀ i v, am_ld ab i = some v → ls[i]? = some (.val (cvA adr v))
def lvL (adr : Nat → Nat) (ab : AL) : List (Nat × Value) := (List.range ab.length).filterMap (fun i => (am_ld ab i).map (fun v => (i, cvA adr v)))
theorem lvL_mem {adr : Nat → Nat} {ab : AL} {q : Nat × Value} : q ∈ lvL adr ab ↔ ∃ v, am_ld ab q.1 = some v ∧ q.2 = cvA adr v := by
  simp only [lvL, List.mem_filterMap, List.mem_range, Option.map_eq_some_iff]
  constructor
  · rintro ⟨i, -, v, h, rfl⟩
    exact ⟨v, h, rfl⟩
  · rintro ⟨v, h, h2⟩
    exact ⟨q.1, am_ld_lt h, v, h, by rw [← h2]⟩
theorem LOK.has {adr : Nat → Nat} {nL : Nat} {ls : Array Slot} {ab : AL} (h : LOK adr nL ls ab) : lv_has ls nL (lvL adr ab) := by
  refine ⟨h.1, h.2.1, fun q hq => ?_⟩
  obtain ⟨v, h1, h2⟩ := lvL_mem.mp hq
  rw [h2]
  exact h.2.2.2 q.1 v h1
theorem LOK.set {adr : Nat → Nat} {nL : Nat} {ls ls' : Array Slot} {ab ab' : AL} {i : Nat} {v : AV} (h : LOK adr nL ls ab) (hs : am_st ab i v = some ab') (h' : lv_has ls' nL ((i, cvA adr v) :: (lvL adr ab).filter (fun q => !(q.1 == i) && !(q.1 + 1 == i && q.2.category == 2)))) : LOK adr nL ls' ab' := by
  obtain ⟨g1, g2, g3⟩ := am_st_el hs
  refine ⟨h'.1, h'.2.1, by rw [g2]; exact h.2.2.1, fun j w hw => ?_⟩
  rw [g3 j] at hw
  by_cases hj : j = i
  · subst hj
    rw [if_pos rfl] at hw
    cases hw
    exact h'.2.2 (j, cvA adr v) List.mem_cons_self
  · rw [if_neg hj] at hw
    refine h'.2.2 (j, cvA adr w) (List.mem_cons_of_mem _ (List.mem_filter.mpr ⟨lvL_mem.mpr ⟨w, hw, rfl⟩, ?_⟩))
    simp [hj, cvA_cat]
theorem LOK.lt {adr : Nat → Nat} {nL : Nat} {ls : Array Slot} {ab ab' : AL} {i : Nat} {v : AV} (h : LOK adr nL ls ab) (hs : am_st ab i v = some ab') : i < nL := by
  have := (am_st_el hs).1
  rw [h.2.2.1] at this
  exact this
/-- forgetting what isn't needed -/
theorem LOK.weak {adr : Nat → Nat} {nL : Nat} {ls : Array Slot} {ab ab' : AL} (h : LOK adr nL ls ab) (hl : ab'.length = ab.length) (hw : ∀ i v, am_ld ab' i = some v → am_ld ab i = some v) : LOK adr nL ls ab' :=
  ⟨h.1, h.2.1, by rw [hl]; exact h.2.2.1, fun i v q => h.2.2.2 i v (hw i v q)⟩
theorem i8_iN {z : Int} (h1 : -128 ≤ z) (h2 : z ≤ 127) : (Int8.ofInt z).toInt32 = iN z := by
  apply Int32.toInt_inj.mp
  rw [iN_toInt ⟨by omega, by omega⟩, Int8.toInt_toInt32, Int8.toInt_ofInt]
  have e : (Int8.size : Int) = 256 := rfl
  exact Int.bmod_eq_of_le (by rw [e]; omega) (by rw [e]; omega)
theorem i16_iN {z : Int} (h1 : -32768 ≤ z) (h2 : z ≤ 32767) : (Int16.ofInt z).toInt32 = iN z := by
  apply Int32.toInt_inj.mp
  rw [iN_toInt ⟨by omega, by omega⟩, Int16.toInt_toInt32, Int16.toInt_ofInt]
  have e : (Int16.size : Int) = 65536 := rfl
  exact Int.bmod_eq_of_le (by rw [e]; omega) (by rw [e]; omega)
theorem lay_lt {a : Nat} (h : ∀ n, lay a ≠ .inl (9, n)) : a < NN := by
  rcases Nat.lt_or_ge a NN with q | q
  · exact q
  · exfalso
    refine h 0 ?_
    have e : layL.length ≤ a := Nat.le_trans (by decide +kernel) q
    simp [lay, List.getD_eq_getElem?_getD, List.getElem?_eq_none e]
theorem lay_ok {a : Nat} (h : a < NN) : okL a = true := List.all_eq_true.mp tb_lay a (List.mem_range.mpr h)
section SND
variable {p : Program} {l : Launch} {e : Env} {R : Room} {s : State} {m : MethodId} {args : Array Value} {below : List Frame} {meth : Method} {c : Code} {Q : State → Prop}
variable {D : va_G} {tA : Nat → ClassId} {adr adV : Nat → Nat} {mi : Nat}
def FxA (p : Program) (R : Room) (s : State) (m : MethodId) (args : Array Value) (c : Code) (D : va_G) (tA : Nat → ClassId) (adr adV : Nat → Nat) (mi : Nat) : Prop :=
  p.tables.exec = Jvm.exec ∧ c.code = cM mi ∧ c.maxLocals = lM mi ∧ s.vm.findClass (Rn (oM mi)) = some m.cls ∧ (∀ w ∈ gW, w.before args s = true) ∧ va_K D clA (tysA tA) s ∧ Stc adr adV (AA adr s.heap.size) s s.heap ∧ Strs adr s ∧ dM mi ≤ R.frames ∧ 64 * dM mi ≤ R.locals ∧ oM mi < 14
def GD (D : va_G) (tA : Nat → ClassId) (adr : Nat → Nat) (s : State) (M : Mm) (H : Heap) (locs : List Loc) : Prop := va_P D clA (wsA tA adr M) H ∧ va_D (AA adr s.heap.size) (wsA tA adr M) ∧ va_S (AA adr s.heap.size) s.heap H locs
def Sm (p : Program) (l : Launch) (e : Env) (R : Room) (s : State) (m : MethodId) (args : Array Value) (below : List Frame) (meth : Method) (c : Code) (Q : State → Prop) (D : va_G) (tA : Nat → ClassId) (adr : Nat → Nat) (mi : Nat) (pc : Nat) (ls : AL) (st : List AV) (M : Mm) : Prop :=
  ∀ H locs lsC, GD D tA adr s M H locs → LOK adr (lM mi) lsC ls → W p l e R s m args below meth c H locs 0 0 Q (F0 m pc lsC (st.map (cvA adr)))
theorem ws_obj {a ci : Nat} {fs : List (Option Nat)} {M : Mm} (h : lay a = .inr (.inl (ci, fs))) : (wsA tA adr M)[a]? = some (adr a, .inr (ci, celF adr M a fs)) := by
  rw [wsA_at (lay_lt (by rw [h]; intro n q; cases q))]
  simp only [cel, h]
theorem ws_arr {a t n : Nat} {M : Mm} (h : lay a = .inl (t, n)) (ht : t ≤ 1) : (wsA tA adr M)[a]? = some (adr a, .inl (tA t, (n, .inl (fun j => iN (M a j))))) := by
  rw [wsA_at (lay_lt (by rw [h]; intro n q; cases q; omega))]
  simp only [cel, h]
theorem ws_ref {a t : Nat} {rs : List Nat} {M : Mm} (h : lay a = .inr (.inr (t, rs))) : (wsA tA adr M)[a]? = some (adr a, .inl (tA t, (rs.length, .inr (.inr (.inr (.inr (fun j => (rs[j]?).map adr))))))) := by
  rw [wsA_at (lay_lt (by rw [h]; intro n q; cases q))]
  simp only [cel, h]
theorem am_fld_el {L : LC} {ci k : Nat} {v : Int} {x : AV} (h : am_fld L ci k v = some x) : ∃ fs, L = .inr (.inl (ci, fs)) ∧ ((fs[k]? = some none ∧ x = .inl v) ∨ ∃ r, fs[k]? = some (some r) ∧ x = .inr r) := by
  unfold am_fld at h
  split at h
  · rename_i c fs
    split at h
    · rename_i hc
      subst hc
      refine ⟨fs, rfl, ?_⟩
      split at h
      · rename_i q
        cases h
        exact Or.inl ⟨q, rfl⟩
      · rename_i r q
        cases h
        exact Or.inr ⟨r, q, rfl⟩
      · cases h
    · cases h
  · cases h
theorem fld_el {o x : Nat} {q : Nat × Nat × Nat} (ho : o < 14) (h : fldT o x = some q) : q.1 < 13 ∧ q.2.1 < Nc q.1 ∧ Cond.fieldLink (Rn o) x (Tc q.1 q.2.1).1 (Tc q.1 q.2.1).2.1 (Tc q.1 q.2.1).2.2.1 ∈ gW ∧
    (q.2.2 = 0 → (Tc q.1 q.2.1).2.2.1 = "I" ∧ (Tc q.1 q.2.1).2.2.2 = false) ∧ (q.2.2 = 1 → (Tc q.1 q.2.1).2.2.1 = "Z" ∧ (Tc q.1 q.2.1).2.2.2 = false) := by
  simp only [fldT, Option.map_eq_some_iff] at h
  obtain ⟨⟨x', ci, sl, ty, p1⟩, h1, rfl⟩ := h
  have hx : x' = x := by have := List.find?_some h1; simpa using this
  subst hx
  have hm := List.mem_of_find?_eq_some h1
  have h2 := List.all_eq_true.mp (List.all_eq_true.mp tb_fld o (List.mem_range.mpr ho)) _ hm
  simp only [okF, Bool.and_eq_true, Bool.or_eq_true, decide_eq_true_eq] at h2
  obtain ⟨⟨⟨⟨g1, g2⟩, g3⟩, g4⟩, g5⟩ := h2
  refine ⟨g1, g2, gW_at g3 g4, fun z => ?_, fun z => ?_⟩
  · have z' : ty = 0 := z
    rcases g5 with (⟨⟨-, g6⟩, g7⟩ | ⟨⟨g8, -⟩, -⟩) | g8
    · exact ⟨g6, g7⟩
    · omega
    · omega
  · have z' : ty = 1 := z
    rcases g5 with (⟨⟨g8, -⟩, -⟩ | ⟨⟨-, g6⟩, g7⟩) | g8
    · omega
    · exact ⟨g6, g7⟩
    · omega
theorem cls_el {ci : Nat} (h : ci < 13) : clA[ci]? = some (Rn ci, Tc ci, Nc ci) ∧ ∀ w ∈ u_ws (Rn ci) (Tc ci) (Nc ci), w ∈ gW := by
  have h2 := List.all_eq_true.mp tb_cls ci (List.mem_range.mpr h)
  unfold okW at h2
  cases hq : clA[ci]? with
  | none => rw [hq] at h2; cases h2
  | some q =>
    rw [hq] at h2
    simp only [Bool.and_eq_true, decide_eq_true_eq, List.all_eq_true, List.mem_range] at h2
    obtain ⟨h3, h4⟩ := h2
    have e1 : Tc ci = q.2.1 := by unfold Tc; rw [hq]
    have e2 : Nc ci = q.2.2 := by unfold Nc; rw [hq]
    rw [e1, e2, ← h4]
    refine ⟨rfl, fun w hw => ?_⟩
    obtain ⟨k, hk, rfl⟩ := List.mem_map.mp hw
    exact gW_at (h3 k (List.mem_range.mp hk)).1 (h3 k (List.mem_range.mp hk)).2
end SND
