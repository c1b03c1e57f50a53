/-! THROWS AT THE MACHINE: a run that ends in a throw. First: the stack stays low. -/
theorem k1_mo {st : List AV} {b : Nat} {f g : Int → List AV → Prop} (hb : st.length ≤ b) (h : k1 st f) (m : ∀ x r, r.length + 1 ≤ b → f x r → g x r) : k1 st g := by
  obtain ⟨x, r, rfl, h⟩ := k1_el h
  simp only [List.length_cons] at hb
  exact m x r (by omega) h
theorem kr_mo {st : List AV} {b : Nat} {f g : Nat → List AV → Prop} (hb : st.length ≤ b) (h : kr st f) (m : ∀ x r, r.length + 1 ≤ b → f x r → g x r) : kr st g := by
  obtain ⟨x, r, rfl, h⟩ := kr_el h
  simp only [List.length_cons] at hb
  exact m x r (by omega) h
theorem kv_mo {st : List AV} {b : Nat} {f g : AV → List AV → Prop} (hb : st.length ≤ b) (h : kv st f) (m : ∀ x r, r.length + 1 ≤ b → f x r → g x r) : kv st g := by
  obtain ⟨x, r, rfl, h⟩ := kv_el h
  simp only [List.length_cons] at hb
  exact m x r (by omega) h
theorem k2_mo {st : List AV} {b : Nat} {f g : Int → Int → List AV → Prop} (hb : st.length ≤ b) (h : k2 st f) (m : ∀ x y r, r.length + 2 ≤ b → f x y r → g x y r) : k2 st g := by
  obtain ⟨x, y, r, rfl, h⟩ := k2_el h
  simp only [List.length_cons] at hb
  exact m x y r (by omega) h
theorem kvv_mo {st : List AV} {b : Nat} {f g : AV → AV → List AV → Prop} (hb : st.length ≤ b) (h : kvv st f) (m : ∀ x y r, r.length + 2 ≤ b → f x y r → g x y r) : kvv st g := by
  obtain ⟨x, y, r, rfl, h⟩ := kvv_el h
  simp only [List.length_cons] at hb
  exact m x y r (by omega) h
theorem kri_mo {st : List AV} {b : Nat} {f g : Nat → Int → List AV → Prop} (hb : st.length ≤ b) (h : kri st f) (m : ∀ x y r, r.length + 2 ≤ b → f x y r → g x y r) : kri st g := by
  obtain ⟨x, y, r, rfl, h⟩ := kri_el h
  simp only [List.length_cons] at hb
  exact m x y r (by omega) h
theorem krii_mo {st : List AV} {b : Nat} {f g : Nat → Int → Int → List AV → Prop} (hb : st.length ≤ b) (h : krii st f) (m : ∀ x y z r, r.length + 3 ≤ b → f x y z r → g x y z r) : krii st g := by
  obtain ⟨x, y, z, r, rfl, h⟩ := krii_el h
  simp only [List.length_cons] at hb
  exact m x y z r (by omega) h
theorem kO_mo {α : Type} {w : Option α} {f g : α → Prop} (h : kO w f) (m : ∀ v, f v → g v) : kO w g := by
  obtain ⟨x, rfl, h⟩ := kO_el h
  exact m x h
theorem kI_mo {w : Option AV} {f g : Int → Prop} (h : kI w f) (m : ∀ v, f v → g v) : kI w g := by
  obtain ⟨x, rfl, h⟩ := kI_el h
  exact m x h
theorem kR_mo {w : Option AV} {f g : Nat → Prop} (h : kR w f) (m : ∀ v, f v → g v) : kR w g := by
  obtain ⟨x, rfl, h⟩ := kR_el h
  exact m x h
theorem kA_mo {L : LC} {t : Nat} {f g : Nat → Prop} (h : kA L t f) (m : ∀ v, f v → g v) : kA L t g := by
  obtain ⟨x, rfl, h2⟩ := kA_el h
  exact ⟨rfl, m x h2⟩
theorem kQ_mo {L : LC} {f g : List Nat → Prop} (h : kQ L f) (m : ∀ v, f v → g v) : kQ L g := by
  obtain ⟨t, x, rfl, h⟩ := kQ_el h
  exact m x h
theorem swc_mo {x : Int} {pc : Nat} {f g : Nat → Prop} (m : ∀ t, f t → g t) : ∀ {os : List Int} {v : Int}, swc x pc f v os → swc x pc g v os
  | [], _, _ => trivial
  | _ :: _, _, h => ⟨fun e => m _ (h.1 e), swc_mo m h.2⟩
theorem CallA_mo {rk q pc : Nat} {as r : List AV} {M : Mm} {ls : AL} {f g : Nat → AL → List AV → Mm → Prop} (h : CallA rk q as M f pc ls r) (m : ∀ st M, st.length ≤ r.length + 1 → f pc ls st M → g pc ls st M) : CallA rk q as M g pc ls r := by
  match rk, h with
  | 0, h => exact CallV.mono h (fun M' z => m _ _ (by omega) z)
  | 1, h => exact CallI.mono h (fun x M' z => m _ _ (by simp) z)
  | 2, h => exact CallI.mono h (fun x M' z => m _ _ (by simp) z)
  | 3, h => exact CallR.mono h (fun x M' z => m _ _ (by simp) z)

theorem stp_len {mi : Nat} {ret : Option AV → Mm → Prop} {thr : Nat → Mm → Prop} {k : Nat → AL → List AV → Mm → Prop} {i : Instr} {n pc : Nat} {ls : AL} {st : List AV} {M : Mm} {b : Nat} (h9 : 9 ≤ b) (hb : st.length ≤ b) (h : stp mi ret thr k i n pc ls st M) :
    stp mi ret thr (fun pc ls st' M => st'.length ≤ b + 2 ∧ k pc ls st' M) i n pc ls st M := by
  cases i with
  | iconst z => exact ⟨h.1, (by simp only [List.length_cons]; omega), h.2⟩
  | bipush z => exact ⟨h.1, h.2.1, (by simp only [List.length_cons]; omega), h.2.2⟩
  | sipush z => exact ⟨h.1, h.2.1, (by simp only [List.length_cons]; omega), h.2.2⟩
  | ldc x => exact ⟨h.1, kO_mo h.2 (fun v z => ⟨(by simp only [List.length_cons]; omega), z⟩)⟩
  | ldc_w x => exact ⟨h.1, kI_mo h.2 (fun v z => ⟨(by simp only [List.length_cons]; omega), z⟩)⟩
  | iload_n j => exact ⟨h.1, kI_mo h.2 (fun v z => ⟨(by simp only [List.length_cons]; omega), z⟩)⟩
  | iload j => exact ⟨h.1, kI_mo h.2 (fun v z => ⟨(by simp only [List.length_cons]; omega), z⟩)⟩
  | aload_n j => exact ⟨h.1, kR_mo h.2 (fun v z => ⟨(by simp only [List.length_cons]; omega), z⟩)⟩
  | aload j => exact ⟨h.1, kR_mo h.2 (fun v z => ⟨(by simp only [List.length_cons]; omega), z⟩)⟩
  | istore_n j => exact ⟨h.1, k1_mo hb h.2 (fun x r hr z => kO_mo z (fun ls z => ⟨by omega, z⟩))⟩
  | istore j => exact ⟨h.1, k1_mo hb h.2 (fun x r hr z => kO_mo z (fun ls z => ⟨by omega, z⟩))⟩
  | astore_n j => exact ⟨h.1, kr_mo hb h.2 (fun x r hr z => kO_mo z (fun ls z => ⟨by omega, z⟩))⟩
  | astore j => exact ⟨h.1, kr_mo hb h.2 (fun x r hr z => kO_mo z (fun ls z => ⟨by omega, z⟩))⟩
  | iinc j z => exact ⟨h.1, kI_mo h.2 (fun v z => kO_mo z (fun ls z => ⟨by omega, z⟩))⟩
  | iadd => exact ⟨h.1, k2_mo hb h.2 (fun x y r hr z => ⟨(by simp only [List.length_cons]; omega), z⟩)⟩
  | isub => exact ⟨h.1, k2_mo hb h.2 (fun x y r hr z => ⟨(by simp only [List.length_cons]; omega), z⟩)⟩
  | imul => exact ⟨h.1, k2_mo hb h.2 (fun x y r hr z => ⟨(by simp only [List.length_cons]; omega), z⟩)⟩
  | iand => exact ⟨h.1, k2_mo hb h.2 (fun x y r hr z => ⟨(by simp only [List.length_cons]; omega), z⟩)⟩
  | ior => exact ⟨h.1, k2_mo hb h.2 (fun x y r hr z => ⟨(by simp only [List.length_cons]; omega), z⟩)⟩
  | ixor => exact ⟨h.1, k2_mo hb h.2 (fun x y r hr z => ⟨(by simp only [List.length_cons]; omega), z⟩)⟩
  | ishl => exact ⟨h.1, k2_mo hb h.2 (fun x y r hr z => ⟨(by simp only [List.length_cons]; omega), z⟩)⟩
  | ishr => exact ⟨h.1, k2_mo hb h.2 (fun x y r hr z => ⟨(by simp only [List.length_cons]; omega), z⟩)⟩
  | iushr => exact ⟨h.1, k2_mo hb h.2 (fun x y r hr z => ⟨(by simp only [List.length_cons]; omega), z⟩)⟩
  | idiv => exact ⟨h.1, k2_mo hb h.2 (fun x y r hr z => ⟨z.1, z.2.1, z.2.2.1, (by simp only [List.length_cons]; omega), z.2.2.2⟩)⟩
  | irem => exact ⟨h.1, k2_mo hb h.2 (fun x y r hr z => ⟨z.1, z.2.1, z.2.2.1, (by simp only [List.length_cons]; omega), z.2.2.2⟩)⟩
  | ineg => exact ⟨h.1, k1_mo hb h.2 (fun x r hr z => ⟨(by simp only [List.length_cons]; omega), z⟩)⟩
  | dup => exact ⟨h.1, kv_mo hb h.2 (fun x r hr z => ⟨(by simp only [List.length_cons]; omega), z⟩)⟩
  | pop => exact ⟨h.1, kv_mo hb h.2 (fun x r hr z => ⟨by omega, z⟩)⟩
  | dup2 => exact ⟨h.1, kvv_mo hb h.2 (fun x y r hr z => ⟨(by simp only [List.length_cons]; omega), z⟩)⟩
  | goto f => exact ⟨h.1, h.2.1, by omega, h.2.2⟩
  | ifCond q f => exact ⟨h.1, h.2.1, k1_mo hb h.2.2 (fun x r hr z => ⟨z.1, fun e => ⟨by omega, z.2.1 e⟩, fun e => ⟨by omega, z.2.2 e⟩⟩)⟩
  | if_icmp q f => exact ⟨h.1, h.2.1, k2_mo hb h.2.2 (fun x y r hr z => ⟨z.1, z.2.1, fun e => ⟨by omega, z.2.2.1 e⟩, fun e => ⟨by omega, z.2.2.2 e⟩⟩)⟩
  | tableswitch d lo hi fs => exact ⟨h.1, h.2.1, h.2.2.1, k1_mo hb h.2.2.2 (fun x r hr z => ⟨z.1, fun e => ⟨by omega, z.2.1 e⟩, swc_mo (fun t z => ⟨by omega, z⟩) z.2.2⟩)⟩
  | getfield x => exact ⟨h.1, kr_mo hb h.2 (fun a r hr z => kO_mo z (fun q z => kO_mo z (fun v z => ⟨(by simp only [List.length_cons]; omega), z⟩)))⟩
  | putfield x =>
    refine ⟨h.1, ?_⟩
    have h2 := h.2
    match st, hb, h2 with
    | .inl v :: .inr a :: r, hb, h2 =>
      simp only [List.length_cons] at hb
      exact kO_mo h2 (fun q z => ⟨z.1, z.2.1, kI_mo z.2.2 (fun _ z => ⟨by omega, z⟩)⟩)
  | iaload => exact ⟨h.1, kri_mo hb h.2 (fun a i r hr z => kA_mo z (fun n z => ⟨z.1, (by simp only [List.length_cons]; omega), z.2⟩))⟩
  | baload => exact ⟨h.1, kri_mo hb h.2 (fun a i r hr z => kA_mo z (fun n z => ⟨z.1, (by simp only [List.length_cons]; omega), z.2⟩))⟩
  | aaload => exact ⟨h.1, kri_mo hb h.2 (fun a i r hr z => kQ_mo z (fun n z => ⟨z.1, (by simp only [List.length_cons]; omega), z.2⟩))⟩
  | iastore => exact ⟨h.1, krii_mo hb h.2 (fun a i v r hr z => kA_mo z (fun n z => ⟨z.1, by omega, z.2⟩))⟩
  | bastore => exact ⟨h.1, krii_mo hb h.2 (fun a i v r hr z => kA_mo z (fun n z => ⟨z.1, z.2.1, by omega, z.2.2⟩))⟩
  | arraylength => exact ⟨h.1, kr_mo hb h.2 (fun a r hr z => kO_mo z (fun n z => ⟨(by simp only [List.length_cons]; omega), z⟩))⟩
  | ireturn => exact h
  | areturn => exact h
  | return_ => exact h
  | invokevirtual x =>
    refine ⟨h.1, kO_mo h.2 (fun q z => ?_)⟩
    obtain ⟨q, op⟩ := q
    match op, z with
    | 0, z => exact kO_mo z (fun ar z => ⟨z.1, z.2.1, z.2.2.1, CallA_mo z.2.2.2 (fun st M e z' => ⟨by have := z.1; omega, z'⟩)⟩)
  | invokestatic x =>
    refine ⟨h.1, kO_mo h.2 (fun q z => ?_)⟩
    obtain ⟨q, op⟩ := q
    match op, z with
    | 1, z => exact kO_mo z (fun ar z => ⟨z.1, z.2.1, CallA_mo z.2.2 (fun st M e z' => ⟨by have := z.1; omega, z'⟩)⟩)
    | 2, z => exact kO_mo z (fun ar z => ⟨z.1, z.2.1, CallA_mo z.2.2 (fun st M e z' => ⟨by have := z.1; omega, z'⟩)⟩)
    | 3, z => exact ⟨z.1, k2_mo hb z.2 (fun x y r hr z => ⟨z.1, z.2.1, z.2.2.1, by simp only [List.length_cons]; omega, z.2.2.2⟩)⟩
    | 4, z => exact ⟨z.1, k2_mo hb z.2 (fun x y r hr z => ⟨z.1, z.2.1, z.2.2.1, by simp only [List.length_cons]; omega, z.2.2.2⟩)⟩
    | 5, z => exact ⟨z.1, k1_mo hb z.2 (fun x r hr z => ⟨z.1, z.2.1, by simp only [List.length_cons]; omega, z.2.2⟩)⟩
  | new x => exact h
  | _ => exact h.elim


def excN : Nat → String
  | 0 => "java/util/NoSuchElementException"
  | _ => "java/lang/IllegalArgumentException"
/-- where a method has thrown: which, and the memory of X -/
def XcT (D : va_G) (tA : Nat → ClassId) (adr : Nat → Nat) (X : Nat → Mm → Prop) (A : Nat → Prop) : String → State → State → Prop := fun E st t =>
  ∃ q M', X q M' ∧ E = excN q ∧ va_P D clA (wsA tA adr M') t.heap ∧ va_D (AA adr st.heap.size) (wsA tA adr M') ∧ va_F A st t
theorem exc_el {o x q ic : Nat} (h : excT o x = some (q, ic)) : o = 11 ∧ (x = 171 ∧ q = 0 ∧ ic = 173 ∨ x = 96 ∧ q = 1 ∧ ic = 98) := by
  by_cases ho : o = 11
  · subst ho
    refine ⟨rfl, ?_⟩
    by_cases h1 : x = 96
    · subst h1
      cases h
      exact Or.inr ⟨rfl, rfl, rfl⟩
    · by_cases h2 : x = 171
      · subst h2
        cases h
        exact Or.inl ⟨rfl, rfl, rfl⟩
      · exfalso
        have e1 : ((96 : Nat) == x) = false := by simp; omega
        have e2 : ((171 : Nat) == x) = false := by simp; omega
        simp [excT, excL, List.find?, e1, e2] at h
  · exfalso
    have e : excL o = [] := by
      unfold excL
      split <;> first | rfl | exact absurd rfl ho
    simp [excT, e] at h
def excUp : List String := ["java/lang/RuntimeException", "java/lang/Exception"]
theorem ex0_in : ∀ w ∈ [Cond.classLink (Rn 11) 171 (excN 0), Cond.initialized (excN 0)], w ∈ lw_tbl := by decide +kernel
theorem ex1_in : ∀ w ∈ [Cond.classLink (Rn 11) 96 (excN 1), Cond.initialized (excN 1)], w ∈ lw_tbl := by decide +kernel
theorem ex0_at : ∀ w ∈ (vx_at0 (Rn 11) 173 (excN 0) excUp).filter goodWord, w ∈ lw_tbl := by decide +kernel
theorem ex1_at : ∀ w ∈ (vx_at0 (Rn 11) 98 (excN 1) excUp).filter goodWord, w ∈ lw_tbl := by decide +kernel
/-- the words of a throw that a heap doesn't change but that aren't good ones -/
def excD : List Cond := (vx_at0 (Rn 11) 173 (excN 0) excUp).filter (fun w => !goodWord w) ++ (vx_at0 (Rn 11) 98 (excN 1) excUp).filter (fun w => !goodWord w)
def Dcl (U : State) : Prop := ∀ w ∈ excD, w.before #[] U = true
theorem ex1_ng : ∀ w ∈ (vx_at0 (Rn 11) 98 (excN 1) excUp).filter (fun w => !goodWord w), w ∈ excD := fun w hw => List.mem_append_right _ hw
theorem excD_ot : ∀ w ∈ excD, w.onTables = true := by decide +kernel
theorem Dcl.at {s : State} (h : Dcl s) (args : Array Value) : ∀ w ∈ excD, w.before args s = true := fun w hw => va_tabs (excD_ot w hw) rfl (h w hw)
theorem ex0_ot : ∀ w ∈ Cond.classLink (Rn 11) 171 (excN 0) :: Cond.initialized (excN 0) :: vx_at0 (Rn 11) 173 (excN 0) excUp, vx_ot w = true := by decide +kernel
theorem ex1_ot : ∀ w ∈ Cond.classLink (Rn 11) 96 (excN 1) :: Cond.initialized (excN 1) :: vx_at0 (Rn 11) 98 (excN 1) excUp, vx_ot w = true := by decide +kernel
theorem cvs_sum (adr : Nat → Nat) : ∀ st : List AV, ((st.map (cvA adr)).map fun v => v.category).sum = st.length
  | [] => rfl
  | v :: r => by
    have := cvs_sum adr r
    simp only [List.map_cons, List.sum_cons, List.length_cons, cvA_cat, this]
    omega
theorem stp_thr {mi : Nat} {ret : Option AV → Mm → Prop} {t1 t2 : Nat → Mm → Prop} {k : Nat → AL → List AV → Mm → Prop} {i : Instr} {n pc : Nat} {ls : AL} {st : List AV} {M : Mm} (hi : ∀ x, i ≠ .new x) (h : stp mi ret t1 k i n pc ls st M) : stp mi ret t2 k i n pc ls st M := by
  cases i <;> first | exact h | exact absurd rfl (hi _)
section THR
variable {p : Program} {l : Launch} {e : Env} {R : Room} {s : State} {m : MethodId} {args : Array Value} {below : List Frame} {meth : Method} {c : Code}
variable {D : va_G} {tA : Nat → ClassId} {adr adV : Nat → Nat} {mi : Nat}
theorem thr_new {x q ic n pc : Nat} {ls : AL} {st : List AV} {M : Mm} {X : Nat → Mm → Prop} (F : FxA p R s m args c D tA adr adV mi) (hl : l.stackTraces = false) (hlk : meth.locks = false) (hout : ∀ x ∈ c.exceptionTable.toList, False) (hD : Dcl s)
    (hfr : 5 < R.frames) (hce : 1 ≤ R.cells) (hsl : 6 ≤ R.slots) (hlo : st.length + 81 ≤ R.locals) (hx : excT (oM mi) x = some (q, ic)) (d0 : decode (cM mi) pc = .ok (.new x, 3)) (d3 : decode (cM mi) (pc + 3) = .ok (.dup, 1)) (d4 : decode (cM mi) (pc + 4) = .ok (.invokespecial ic, 3)) (d7 : decode (cM mi) (pc + 7) = .ok (.athrow, 1)) (hX : X q M) :
    Sm p l e R s m args below meth c (vx_MQ below (fun _ _ _ _ => False) (XcT D tA adr X (AA adr s.heap.size)) args s 1 6 (AA adr s.heap.size)) D tA adr mi pc ls st M := by
  obtain ⟨ho, hq⟩ := exc_el hx
  intro H locs lsC g hl2
  have hw := F.2.2.2.2.1
  have hS := F.2.2.2.2.2.2.1
  have hown := F.2.2.2.1
  rw [ho] at hown
  have hxx : ∀ t : State, s.vm.Alike t.vm → H.size ≤ t.heap.size → (∀ q : Nat, q < H.size → t.heap[q]? = H[q]?) → XcT D tA adr X (AA adr s.heap.size) (excN q) s t := fun t _ h1 h2 =>
    ⟨q, M, hX, rfl, va_P.kept g.1 (fun k z hz => h2 z.1 (vx_lt g.1 hz)), g.2.1, Nat.le_trans g.2.2.1 h1, fun a ha hA => (h2 a (Nat.lt_of_lt_of_le ha g.2.2.1)).trans (g.2.2.2.1 a ha hA)⟩
  have hsum := cvs_sum adr st
  rcases hq with ⟨rfl, rfl, rfl⟩ | ⟨rfl, rfl, rfl⟩
  · exact vx_throw0 (own := Rn 11) (cls := excN 0) (names := excUp) (A := AA adr s.heap.size) F.1 F.2.1 hl hown (by decide +kernel) (by decide +kernel) (hw _ (gW_of (ex0_in _ (by simp)) rfl)) (hw _ (gW_of (ex0_in _ (by simp)) rfl))
      (vx_hat (B := excD) (fun w hh => hw w (gW_of (ex0_at w hh) (List.mem_filter.mp hh).2)) (fun w hh => List.mem_append_left _ hh) (hD.at args)) ex0_ot hS.2.2.1 hS.2.2.2 g.2.2 (hl2.1.trans F.2.2.1.symm) d0 d3 d4 d7 (fun x hx => (hout x hx).elim) (by show 2 + 3 < R.frames; omega) (by rw [hsum]; show st.length + (13 * (2 + 1) + 42) ≤ R.locals; omega) (by omega) (by omega) hlk hxx g.2.2.2.2 (by omega) (by omega)
  · exact vx_throw0 (own := Rn 11) (cls := excN 1) (names := excUp) (A := AA adr s.heap.size) F.1 F.2.1 hl hown (by decide +kernel) (by decide +kernel) (hw _ (gW_of (ex1_in _ (by simp)) rfl)) (hw _ (gW_of (ex1_in _ (by simp)) rfl))
      (vx_hat (B := excD) (fun w hh => hw w (gW_of (ex1_at w hh) (List.mem_filter.mp hh).2)) ex1_ng (hD.at args)) ex1_ot hS.2.2.1 hS.2.2.2 g.2.2 (hl2.1.trans F.2.2.1.symm) d0 d3 d4 d7 (fun x hx => (hout x hx).elim) (by show 2 + 3 < R.frames; omega) (by rw [hsum]; show st.length + (13 * (2 + 1) + 42) ≤ R.locals; omega) (by omega) (by omega) hlk hxx g.2.2.2.2 (by omega) (by omega)
theorem thr_sound {X : Nat → Mm → Prop} (hmi : mi < mtN) (F : FxA p R s m args c D tA adr adV mi) (hl : l.stackTraces = false) (hlk : meth.locks = false) (hout : ∀ x ∈ c.exceptionTable.toList, False) (hD : Dcl s) (hfr : 5 < R.frames) (hce : 1 ≤ R.cells) (hsl : 6 ≤ R.slots) :
    ∀ (n b pc : Nat) (ls : AL) (st : List AV) (M : Mm), 9 ≤ b → st.length ≤ b → b + 2 * n + 81 ≤ R.locals → wp mi (fun _ _ => False) X [] (fun _ _ _ _ => False) n pc ls st M →
      Sm p l e R s m args below meth c (vx_MQ below (fun _ _ _ _ => False) (XcT D tA adr X (AA adr s.heap.size)) args s 1 6 (AA adr s.heap.size)) D tA adr mi pc ls st M
  | 0, _, _, _, _, _, _, _, _, h => h.elim
  | n + 1, b, pc, ls, st, M, h9, hb, hr, h => by
    simp only [wp] at h
    split at h
    · rename_i q hd
      obtain ⟨i, k⟩ := q
      by_cases hn : ∃ x, i = .new x
      · obtain ⟨x, rfl⟩ := hn
        obtain ⟨rfl, h⟩ := h
        obtain ⟨⟨q, ic⟩, h1, h2, h3, h4, h⟩ := kO_el h
        exact thr_new (n := n) F hl hlk hout hD hfr hce hsl (by omega) h1 hd h2 h3 h4 h
      · have h' := stp_len h9 hb (stp_thr (t2 := fun _ _ => False) (fun x hx => hn ⟨x, hx⟩) h)
        refine stp_sound F hmi (fun _ _ _ _ _ _ z => z.elim) (fun _ _ _ _ _ _ _ _ _ z => z.elim) (fun pc ls st M hk => ?_) hd h'
        have hk2 := hk.2
        rw [if_neg (by simp)] at hk2
        exact thr_sound hmi F hl hlk hout hD hfr hce hsl n (b + 2) pc ls st M (by omega) hk.1 (by omega) hk2
    · exact h.elim
end THR
def rmX (i n : Nat) : Room := { frames := dM i + 6, cells := 1, slots := 6, locals := 64 * dM i + 2 * n + 100 }
/-- method mi, at these values and this memory, throws: which, and the memory of X -/
def CallX (mi n : Nat) (as : List AV) (M : Mm) (X : Nat → Mm → Prop) : Prop := ∀ (l : Launch), l.stackTraces = false → ∀ (D : va_G) (tA : Nat → ClassId) (adr adV : Nat → Nat) (sz : Nat),
  vx_Met l (yM mi) (wM mi) (rmX mi n) (va_Pc (as.map (cvA adr)) (fun U => Wld D tA adr adV M sz U ∧ Dcl U)) (fun _ _ _ _ => False) (XcT D tA adr X (AA adr sz)) 1 6 (AA adr sz)
theorem callX_of {mi : Nat} {as : List AV} {M : Mm} {X : Nat → Mm → Prop} (hmi : mi < mtN) (ho : oM mi < 14) (hl : as.length ≤ lM mi) (h : ThrP mi as M X) : ∃ n, n ≤ 400 ∧ CallX mi n as M X := by
  obtain ⟨n, hn4, h⟩ := h
  refine ⟨n, hn4, fun l hst D tA adr adV sz => ?_⟩
  obtain ⟨m1, m2⟩ := meth_el hmi
  simp only [okM, Bool.and_eq_true, decide_eq_true_eq] at m2
  have hpl := m2.1.1.1.1.1.2
  have hcls : (yM mi).cls = Rn (oM mi) := m2.1.1.1.1.2
  refine vx_ofW (cc := cM mi) (maxL := lM mi) (ret := rM mi) hpl rfl ?_
  intro p e s m args below meth c s₁ B hml hex hv
  obtain ⟨rfl, ⟨hsz, hP, hK, hD, hC, hR⟩, hdc⟩ := hv
  subst hsz
  have hts := atoms_spec (ws := wM mi) B.pre
  have hown : s.vm.findClass (Rn (oM mi)) = some m.cls := by rw [← hcls]; exact findClass_of_methodNamed B.named
  rw [lg_entry_eq]
  exact thr_sound hmi ⟨B.exec, B.bytes, hml, hown, fun w hw => hts w (List.mem_cons_of_mem _ hw), hK, hC, hR, by show dM mi ≤ dM mi + 6; omega, by show 64 * dM mi ≤ 64 * dM mi + 2 * n + 100; omega, ho⟩ hst B.notSynchronized hex hdc (by show 5 < dM mi + 6; omega) (Nat.le_refl _) (Nat.le_refl _) n 9 0 _ [] M (Nat.le_refl _) (by simp) (by show 9 + 2 * n + 81 ≤ 64 * dM mi + 2 * n + 100; omega) h s.heap [] _ ⟨hP, hD, va_S.rf⟩ (ent_LOK hl)
