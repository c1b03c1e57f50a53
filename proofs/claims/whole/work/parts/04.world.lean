/-! THE WORLD of a memory M: the cells of the layout at the addresses adr. -/
def cvA (adr : Nat → Nat) : AV → Value
  | .inl x => .int (iN x)
  | .inr a => .ref (adr a)
def celV (adr : Nat → Nat) (M : Mm) (a j : Nat) (r : Option Nat) : Value := match r with
  | none => .int (iN (M a j))
  | some b => .ref (adr b)
def celF (adr : Nat → Nat) (M : Mm) (a : Nat) (fs : List (Option Nat)) : List Value := fs.mapIdx (celV adr M a)
def cel (tA : Nat → ClassId) (adr : Nat → Nat) (M : Mm) (a : Nat) : va_E := match lay a with
  | .inl (t, n) => .inl (tA t, (n, .inl (fun j => iN (M a j))))
  | .inr (.inl (ci, fs)) => .inr (ci, celF adr M a fs)
  | .inr (.inr (t, rs)) => .inl (tA t, (rs.length, .inr (.inr (.inr (.inr (fun j => (rs[j]?).map adr))))))
def wsA (tA : Nat → ClassId) (adr : Nat → Nat) (M : Mm) : va_W := (List.range NN).map (fun a => (adr a, cel tA adr M a))
def tysA (tA : Nat → ClassId) : List (ClassId × FieldType) := [(tA 0, .int), (tA 1, .boolean), (tA 2, .object "RingDater$Timber"), (tA 3, .object "java/lang/String")]
theorem wsA_at {tA : Nat → ClassId} {adr : Nat → Nat} {M : Mm} {a : Nat} (h : a < NN) : (wsA tA adr M)[a]? = some (adr a, cel tA adr M a) := by
  simp [wsA, List.getElem?_range h]
theorem wsA_len {tA : Nat → ClassId} {adr : Nat → Nat} {M : Mm} : (wsA tA adr M).length = NN := by simp [wsA]
theorem wsA_set {tA : Nat → ClassId} {adr : Nat → Nat} {M M' : Mm} {a : Nat} {x : va_E} (hx : x = cel tA adr M' a) (h : ∀ b, b ≠ a → ∀ j, M' b j = M b j) : (wsA tA adr M).set a (adr a, x) = wsA tA adr M' := by
  subst hx
  apply List.ext_getElem?
  intro b
  by_cases hb : b < NN
  · by_cases hab : a = b
    · subst hab
      rw [wsA_at hb, List.getElem?_set_self (by rw [wsA_len]; exact hb)]
    · rw [List.getElem?_set_ne hab, wsA_at hb, wsA_at hb]
      have e : M' b = M b := funext (h b (fun q => hab q.symm))
      simp only [cel, celF, celV, e]
      have e2 : celV adr M' b = celV adr M b := by funext j r; simp [celV, e]
      rw [e2]
  · rw [List.getElem?_eq_none (by rw [List.length_set, wsA_len]; omega), List.getElem?_eq_none (by rw [wsA_len]; omega)]
theorem mset_ne {M : Mm} {a k : Nat} {v : Int} (b : Nat) (h : b ≠ a) (j : Nat) : mset M a k v b j = M b j := by
  simp [mset, h]
theorem celF_set {adr : Nat → Nat} {M : Mm} {a k : Nat} {v : Int} {fs : List (Option Nat)} (h : fs[k]? = some none) : (celF adr M a fs).set k (.int (iN v)) = celF adr (mset M a k v) a fs := by
  apply List.ext_getElem?
  intro j
  by_cases hj : k = j
  · subst hj
    have hl : k < fs.length := (List.getElem?_eq_some_iff.mp h).1
    rw [List.getElem?_set_self (by simp [celF]; exact hl)]
    simp [celF, List.getElem?_mapIdx, h, celV, mset]
  · rw [List.getElem?_set_ne hj]
    simp only [celF, List.getElem?_mapIdx]
    congr 1
    funext r
    cases r <;> simp [celV, mset, Ne.symm hj]
theorem iN_toInt {x : Int} (h : inR x) : (iN x).toInt = x := by
  obtain ⟨h1, h2⟩ := h
  rw [iN, Int32.toInt_ofInt]
  have e : (Int32.size : Int) = 4294967296 := rfl
  exact Int.bmod_eq_of_le (by rw [e]; omega) (by rw [e]; omega)
theorem iN_clamp {x : Int} (h0 : 0 ≤ x) (h : x ≤ 2147483647) : (iN x).toNatClampNeg = x.toNat := by
  show (iN x).toInt.toNat = _
  rw [iN_toInt ⟨by omega, h⟩]
theorem iN_in {x : Int} {n : Nat} (h0 : 0 ≤ x) (h : x < n) (hn : n < 2 ^ 31) : vp_in (iN x) n := by
  rw [vp_in_iff, iN_toInt ⟨by omega, by omega⟩]
  exact ⟨h0, h⟩
theorem iN_add (x y : Int) : iN x + iN y = iN (x + y) := by
  simp [iN, Int32.ofInt_add]
theorem iN_sub (x y : Int) : iN x - iN y = iN (x - y) := by
  simp [iN, Int32.ofInt_sub]
theorem iN_mul (x y : Int) : iN x * iN y = iN (x * y) := by
  simp [iN, Int32.ofInt_mul]
theorem iN_neg (x : Int) : - iN x = iN (- x) := by
  simp [iN, Int32.ofInt_neg]
theorem iN_ti (x : Int32) : iN x.toInt = x := by simp [iN]
theorem iN_eq {x y : Int} (hx : inR x) (hy : inR y) : iN x = iN y ↔ x = y := by
  constructor
  · intro h
    rw [← iN_toInt hx, ← iN_toInt hy, h]
  · intro h
    rw [h]
theorem iN_lt {x y : Int} (hx : inR x) (hy : inR y) : iN x < iN y ↔ x < y := by
  rw [Int32.lt_iff_toInt_lt, iN_toInt hx, iN_toInt hy]
theorem iN_le {x y : Int} (hx : inR x) (hy : inR y) : iN x ≤ iN y ↔ x ≤ y := by
  rw [Int32.le_iff_toInt_le, iN_toInt hx, iN_toInt hy]
theorem inR_0 : inR 0 := ⟨by decide, by decide⟩
theorem iN_div {x y : Int} (hx : inR x) (hy : inR y) : iN x / iN y = iN (x.tdiv y) := by
  apply Int32.toInt_inj.mp
  rw [Int32.toInt_div, iN_toInt hx, iN_toInt hy, iN, Int32.toInt_ofInt]
theorem iN_rem {x y : Int} (hx : inR x) (hy : inR y) : iN x - iN x / iN y * iN y = iN (x.tmod y) := by
  rw [iN_div hx hy, iN_mul, iN_sub]
  congr 1
  rw [Int.tmod_def, Int.mul_comm]
/-- what stands still beside the world: the texts' constants, the JDK's statics that are read -/
def Stc (adr adV : Nat → Nat) (A : Nat → Prop) (U : State) (H : Heap) : Prop :=
  vk_S 7 strLen strByt (fun i => adr (NN + i)) adV A U H ∧ (va_Z "java/lang/String" "COMPACT_STRINGS" "Z" (.int 1) A U H ∧ vx_Zq "jdk/internal/util/Preconditions" "SIOOBE_FORMATTER" "Ljava/util/function/BiFunction;" A U H) ∧
  vx_Zq Bundle.tN "UNASSIGNED_STACK" Bundle.steD A U H ∧ vx_Zq Bundle.tN "SUPPRESSED_SENTINEL" Bundle.listD A U H
theorem Stc.moved {adr adV : Nat → Nat} {A : Nat → Prop} {u U : State} {H : Heap} (hvm : u.vm.Alike U.vm) (h : Stc adr adV A u H) : Stc adr adV A U H :=
  ⟨vk_S.moved hvm h.1, ⟨va_Z.moved hvm h.2.1.1, vx_Zq.moved hvm h.2.1.2⟩, vx_Zq.moved hvm h.2.2.1, vx_Zq.moved hvm h.2.2.2⟩
theorem Stc.kept {adr adV : Nat → Nat} {A : Nat → Prop} {U : State} {H H1 : Heap} (h : Stc adr adV A U H) (hq : ∀ a : Nat, a < H.size → ¬ A a → H1[a]? = H[a]?) : Stc adr adV A U H1 :=
  ⟨h.1.kept hq, ⟨h.2.1.1.kept hq, h.2.1.2.kept hq⟩, h.2.2.1.kept hq, h.2.2.2.kept hq⟩
theorem Stc.narrow {adr adV : Nat → Nat} {A B : Nat → Prop} {U : State} {H : Heap} (h : Stc adr adV A U H) (hAB : ∀ q, B q → A q) : Stc adr adV B U H :=
  ⟨h.1.narrow hAB, ⟨h.2.1.1.narrow hAB, h.2.1.2.narrow hAB⟩, h.2.2.1.narrow hAB, h.2.2.2.narrow hAB⟩
def Strs (adr : Nat → Nat) (U : State) : Prop := (∀ o r, r ∈ strL o → vk_R (Rn o) r.1 r.2.1 (adr (NN + r.2.2)) U) ∧ ∀ o r, r ∈ invL o → r.2.2.1 = 2 → va_Nw (.methodLinkNest (Rn o) r.1 (yM r.2.1) "RingDater") U
theorem Strs.warm {adr : Nat → Nat} {s U : State} (hW : s.WarmedH U.vm) (h : Strs adr s) : Strs adr U := ⟨fun o r hr => (h.1 o r hr).warm hW, fun o r hr h2 => (h.2 o r hr h2).warmM hW⟩
theorem Strs.same {adr : Nat → Nat} {u U : State} (hv : U.vm = u.vm) (h : Strs adr u) : Strs adr U := ⟨fun o r hr => (h.1 o r hr).same hv, fun o r hr h2 => (h.2 o r hr h2).same rfl hv.symm⟩
/-- the cells that a method may write -/
def AA (adr : Nat → Nat) (sz : Nat) : Nat → Prop := fun q => (∃ a, a < NN ∧ q = adr a) ∨ sz ≤ q
theorem AA_mono {adr : Nat → Nat} {a b : Nat} (h : a ≤ b) (q : Nat) (hq : AA adr b q) : AA adr a q := hq.elim Or.inl (fun z => Or.inr (Nat.le_trans h z))
def Wld (D : va_G) (tA : Nat → ClassId) (adr adV : Nat → Nat) (M : Mm) (sz : Nat) (U : State) : Prop :=
  U.heap.size = sz ∧ va_P D clA (wsA tA adr M) U.heap ∧ va_K D clA (tysA tA) U ∧ va_D (AA adr sz) (wsA tA adr M) ∧ Stc adr adV (AA adr sz) U U.heap ∧ Strs adr U
def Qm (D : va_G) (tA : Nat → ClassId) (adr : Nat → Nat) (Q : Option AV → Mm → Prop) (A : Nat → Prop) : Array Value → State → Outcome → State → Prop := fun _ st oc t =>
  (∃ v M', Q v M' ∧ oc = .returned (v.map (cvA adr)) ∧ va_P D clA (wsA tA adr M') t.heap ∧ va_D (AA adr st.heap.size) (wsA tA adr M')) ∧ va_F A st t
/-- method mi, at these values and this memory, comes to its end with an answer and a memory of Q -/
def CallP (mi : Nat) (as : List AV) (M : Mm) (Q : Option AV → Mm → Prop) : Prop := ∀ (l : Launch) (D : va_G) (tA : Nat → ClassId) (adr adV : Nat → Nat) (sz : Nat),
  Met l (yM mi) (wM mi) (rmM mi) (va_Pc (as.map (cvA adr)) (Wld D tA adr adV M sz)) (Qm D tA adr Q (AA adr sz)) 0 0 (AA adr sz)
def CallV (mi : Nat) (as : List AV) (M : Mm) (Q : Mm → Prop) : Prop := CallP mi as M (fun v M' => v = none ∧ Q M')
def CallI (mi : Nat) (as : List AV) (M : Mm) (Q : Int → Mm → Prop) : Prop := CallP mi as M (fun v M' => ∃ x, v = some (.inl x) ∧ Q x M')
def CallR (mi : Nat) (as : List AV) (M : Mm) (Q : Nat → Mm → Prop) : Prop := CallP mi as M (fun v M' => ∃ x, v = some (.inr x) ∧ Q x M')
/-- a call, by the sort of its answer (0 none, 1, 2 a number, 3 a cell) -/
def CallA (rk q : Nat) (as : List AV) (M : Mm) (k : Nat → AL → List AV → Mm → Prop) (pc : Nat) (ls : AL) (r : List AV) : Prop := match rk with
  | 0 => CallV q as M (fun M' => k pc ls r M')
  | 1 => CallI q as M (fun x M' => k pc ls (.inl x :: r) M')
  | 2 => CallI q as M (fun x M' => k pc ls (.inl x :: r) M')
  | 3 => CallR q as M (fun x M' => k pc ls (.inr x :: r) M')
  | _ => False
def kCa (mi q : Nat) (k : Nat → AL → List AV → Mm → Prop) (pc : Nat) (ls : AL) (st : List AV) (M : Mm) : Prop :=
  kO (am_args (nM q) st []) (fun ar => ar.2.length ≤ 8 ∧ dM q < dM mi ∧ CallA (rkM q) q ar.1 M k (pc + 3) ls ar.2)
def kSt (mi q op : Nat) (k : Nat → AL → List AV → Mm → Prop) (pc : Nat) (ls : AL) (st : List AV) (M : Mm) : Prop := match op with
  | 1 => kCa mi q k pc ls st M
  | 2 => kCa mi q k pc ls st M
  | 3 => 1 ≤ dM mi ∧ k2 st (fun x y r => inR x ∧ inR y ∧ r.length ≤ 8 ∧ k (pc + 3) ls (.inl (max x y) :: r) M)
  | 4 => 1 ≤ dM mi ∧ k2 st (fun x y r => inR x ∧ inR y ∧ r.length ≤ 8 ∧ k (pc + 3) ls (.inl (min x y) :: r) M)
  | 5 => 1 ≤ dM mi ∧ k1 st (fun x r => inR x ∧ r.length ≤ 8 ∧ k (pc + 3) ls (.inl (max x (-x)) :: r) M)
  | _ => False
def kVt (mi q op : Nat) (k : Nat → AL → List AV → Mm → Prop) (pc : Nat) (ls : AL) (st : List AV) (M : Mm) : Prop := match op with
  | 0 => kO (am_args (nM q) st []) (fun ar => ar.2.length ≤ 8 ∧ dM q < dM mi ∧ am_rcv q ar.1 ∧ CallA (rkM q) q ar.1 M k (pc + 3) ls ar.2)
  | _ => False
/-- one step of method mi -/
def stp (mi : Nat) (ret : Option AV → Mm → Prop) (thr : Nat → Mm → Prop) (k : Nat → AL → List AV → Mm → Prop) (i : Instr) (n pc : Nat) (ls : AL) (st : List AV) (M : Mm) : Prop := match i with
  | .iconst z => n = 1 ∧ k (pc + 1) ls (.inl z :: st) M
  | .bipush z => n = 2 ∧ (-128 ≤ z ∧ z ≤ 127) ∧ k (pc + 2) ls (.inl z :: st) M
  | .sipush z => n = 3 ∧ (-32768 ≤ z ∧ z ≤ 32767) ∧ k (pc + 3) ls (.inl z :: st) M
  | .ldc x => n = 2 ∧ kO (ldcT (oM mi) x) (fun v => k (pc + 2) ls (v :: st) M)
  | .ldc_w x => n = 3 ∧ kI (ldcT (oM mi) x) (fun v => k (pc + 3) ls (.inl v :: st) M)
  | .iload_n j => n = 1 ∧ kI (am_ld ls j.val) (fun x => k (pc + 1) ls (.inl x :: st) M)
  | .iload j => n = 2 ∧ kI (am_ld ls j) (fun x => k (pc + 2) ls (.inl x :: st) M)
  | .aload_n j => n = 1 ∧ kR (am_ld ls j.val) (fun x => k (pc + 1) ls (.inr x :: st) M)
  | .aload j => n = 2 ∧ kR (am_ld ls j) (fun x => k (pc + 2) ls (.inr x :: st) M)
  | .istore_n j => n = 1 ∧ k1 st (fun x r => kO (am_st ls j.val (.inl x)) (fun ls' => k (pc + 1) ls' r M))
  | .istore j => n = 2 ∧ k1 st (fun x r => kO (am_st ls j (.inl x)) (fun ls' => k (pc + 2) ls' r M))
  | .astore_n j => n = 1 ∧ kr st (fun x r => kO (am_st ls j.val (.inr x)) (fun ls' => k (pc + 1) ls' r M))
  | .astore j => n = 2 ∧ kr st (fun x r => kO (am_st ls j (.inr x)) (fun ls' => k (pc + 2) ls' r M))
  | .iinc j z => n = 3 ∧ kI (am_ld ls j) (fun x => kO (am_st ls j (.inl (x + z))) (fun ls' => k (pc + 3) ls' st M))
  | .iadd => n = 1 ∧ k2 st (fun x y r => k (pc + 1) ls (.inl (x + y) :: r) M)
  | .isub => n = 1 ∧ k2 st (fun x y r => k (pc + 1) ls (.inl (x - y) :: r) M)
  | .imul => n = 1 ∧ k2 st (fun x y r => k (pc + 1) ls (.inl (x * y) :: r) M)
  | .idiv => n = 1 ∧ k2 st (fun x y r => inR x ∧ inR y ∧ ¬ y = 0 ∧ k (pc + 1) ls (.inl (x.tdiv y) :: r) M)
  | .irem => n = 1 ∧ k2 st (fun x y r => inR x ∧ inR y ∧ ¬ y = 0 ∧ k (pc + 1) ls (.inl (x.tmod y) :: r) M)
  | .ineg => n = 1 ∧ k1 st (fun x r => k (pc + 1) ls (.inl (-x) :: r) M)
  | .iand => n = 1 ∧ k2 st (fun x y r => k (pc + 1) ls (.inl (bAnd x y) :: r) M)
  | .ior => n = 1 ∧ k2 st (fun x y r => k (pc + 1) ls (.inl (bOr x y) :: r) M)
  | .ixor => n = 1 ∧ k2 st (fun x y r => k (pc + 1) ls (.inl (bXor x y) :: r) M)
  | .ishl => n = 1 ∧ k2 st (fun x y r => k (pc + 1) ls (.inl (bShl x y) :: r) M)
  | .ishr => n = 1 ∧ k2 st (fun x y r => k (pc + 1) ls (.inl (bShr x y) :: r) M)
  | .iushr => n = 1 ∧ k2 st (fun x y r => k (pc + 1) ls (.inl (bUshr x y) :: r) M)
  | .dup => n = 1 ∧ kv st (fun v r => k (pc + 1) ls (v :: v :: r) M)
  | .pop => n = 1 ∧ kv st (fun _ r => k (pc + 1) ls r M)
  | .dup2 => n = 1 ∧ kvv st (fun v w r => k (pc + 1) ls (v :: w :: v :: w :: r) M)
  | .goto f => n = 3 ∧ am_okt pc f ∧ k (am_tgt pc f) ls st M
  | .ifCond q f => n = 3 ∧ am_okt pc f ∧ k1 st (fun x r => inR x ∧ (cz q x → k (am_tgt pc f) ls r M) ∧ (¬ cz q x → k (pc + 3) ls r M))
  | .if_icmp q f => n = 3 ∧ am_okt pc f ∧ k2 st (fun x y r => inR x ∧ inR y ∧ (cc2 q x y → k (am_tgt pc f) ls r M) ∧ (¬ cc2 q x y → k (pc + 3) ls r M))
  | .tableswitch d lo hi fs => am_okt pc d ∧ (fs.toList.length : Int) = hi - lo + 1 ∧ (∀ f ∈ fs.toList, am_okt pc f) ∧ k1 st (fun x r => inR x ∧ (x < lo ∨ hi < x → k (am_tgt pc d) ls r M) ∧ swc x pc (fun t => k t ls r M) lo fs.toList)
  | .getfield x => n = 3 ∧ kr st (fun a r => kO (fldT (oM mi) x) (fun q => kO (am_fld (lay a) q.1 q.2.1 (M a q.2.1)) (fun v => k (pc + 3) ls (v :: r) M)))
  | .putfield x => n = 3 ∧ (match st with
    | .inl v :: .inr a :: r => kO (fldT (oM mi) x) (fun q => q.2.2 ≤ 1 ∧ (q.2.2 = 1 → v = 0 ∨ v = 1) ∧ kI (am_fld (lay a) q.1 q.2.1 (M a q.2.1)) (fun _ => k (pc + 3) ls r (mset M a q.2.1 v)))
    | _ => False)
  | .iaload => n = 1 ∧ kri st (fun a i r => kA (lay a) 0 (fun z => (0 ≤ i ∧ i < z) ∧ k (pc + 1) ls (.inl (M a i.toNat) :: r) M))
  | .baload => n = 1 ∧ kri st (fun a i r => kA (lay a) 1 (fun z => (0 ≤ i ∧ i < z) ∧ k (pc + 1) ls (.inl (M a i.toNat) :: r) M))
  | .aaload => n = 1 ∧ kri st (fun a i r => kQ (lay a) (fun rs => (0 ≤ i ∧ i < rs.length) ∧ k (pc + 1) ls (.inr (rs.getD i.toNat 0) :: r) M))
  | .iastore => n = 1 ∧ krii st (fun a i v r => kA (lay a) 0 (fun z => (0 ≤ i ∧ i < z) ∧ k (pc + 1) ls r (mset M a i.toNat v)))
  | .bastore => n = 1 ∧ krii st (fun a i v r => kA (lay a) 1 (fun z => (0 ≤ i ∧ i < z) ∧ (v = 0 ∨ v = 1) ∧ k (pc + 1) ls r (mset M a i.toNat v)))
  | .arraylength => n = 1 ∧ kr st (fun a r => kO (am_len (lay a)) (fun z => k (pc + 1) ls (.inl z :: r) M))
  | .ireturn => n = 1 ∧ (match st with
    | [.inl x] => (rkM mi = 1 ∨ rkM mi = 2 ∧ (x = 0 ∨ x = 1)) ∧ ret (some (.inl x)) M
    | _ => False)
  | .areturn => n = 1 ∧ (match st with
    | [.inr x] => rkM mi = 3 ∧ ret (some (.inr x)) M
    | _ => False)
  | .return_ => n = 1 ∧ st = [] ∧ rkM mi = 0 ∧ ret none M
  | .invokevirtual x => n = 3 ∧ kO (invT (oM mi) x) (fun q => kVt mi q.1 q.2 k pc ls st M)
  | .invokestatic x => n = 3 ∧ kO (invT (oM mi) x) (fun q => kSt mi q.1 q.2 k pc ls st M)
  | .new x => n = 3 ∧ kO (excT (oM mi) x) (fun q => decode (cM mi) (pc + 3) = .ok (.dup, 1) ∧ decode (cM mi) (pc + 4) = .ok (.invokespecial q.2, 3) ∧ decode (cM mi) (pc + 7) = .ok (.athrow, 1) ∧ thr q.1 M)
  | _ => False
def wp (mi : Nat) (ret : Option AV → Mm → Prop) (thr : Nat → Mm → Prop) (cuts : List Nat) (K : Nat → AL → List AV → Mm → Prop) : Nat → Nat → AL → List AV → Mm → Prop
  | 0, _, _, _, _ => False
  | n + 1, pc, ls, st, M => match decode (cM mi) pc with
    | .ok q => stp mi ret thr (fun pc ls st M => if pc ∈ cuts then K pc ls st M else wp mi ret thr cuts K n pc ls st M) q.1 q.2 pc ls st M
    | .error _ => False
