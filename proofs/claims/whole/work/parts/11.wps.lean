/-! THE STEPS AS EQUATIONS, for simp. -/
def kont (mi : Nat) (ret : Option AV → Mm → Prop) (thr : Nat → Mm → Prop) (cuts : List Nat) (K : Nat → AL → List AV → Mm → Prop) (n pc : Nat) (ls : AL) (st : List AV) (M : Mm) : Prop := if pc ∈ cuts then K pc ls st M else wp mi ret thr cuts K n pc ls st M
/-- the same, the memory not the last: so that no eta takes it away -/
def konM (mi : Nat) (ret : Option AV → Mm → Prop) (thr : Nat → Mm → Prop) (cuts : List Nat) (K : Nat → AL → List AV → Mm → Prop) (n : Nat) (M : Mm) (pc : Nat) (ls : AL) (st : List AV) : Prop := if pc ∈ cuts then K pc ls st M else wp mi ret thr cuts K n pc ls st M
def wpd (mi : Nat) (ret : Option AV → Mm → Prop) (thr : Nat → Mm → Prop) (cuts : List Nat) (K : Nat → AL → List AV → Mm → Prop) (n pc : Nat) (ls : AL) (st : List AV) (M : Mm) (d : Except DecodeError (Instr × Nat)) : Prop := match d with
  | .ok q => stp mi ret thr (kont mi ret thr cuts K n) q.1 q.2 pc ls st M
  | .error _ => False
section WPE
variable {mi : Nat} {ret : Option AV → Mm → Prop} {thr : Nat → Mm → Prop} {cuts : List Nat} {K : Nat → AL → List AV → Mm → Prop} {k : Nat → AL → List AV → Mm → Prop} {n pc : Nat} {ls : AL} {st : List AV} {M : Mm}
theorem wp_eq : wp mi ret thr cuts K (n + 1) pc ls st M = wpd mi ret thr cuts K n pc ls st M (decode (cM mi) pc) := rfl
theorem wpd_eq {i : Instr} {z : Nat} : wpd mi ret thr cuts K n pc ls st M (.ok (i, z)) = stp mi ret thr (kont mi ret thr cuts K n) i z pc ls st M := rfl
theorem konM_eq : konM mi ret thr cuts K n M pc ls st = if pc ∈ cuts then K pc ls st M else wp mi ret thr cuts K n pc ls st M := rfl
theorem kont_eq : kont mi ret thr cuts K n pc ls st M = if pc ∈ cuts then K pc ls st M else wp mi ret thr cuts K n pc ls st M := rfl
end WPE
/-- an instruction's step (by rfl, all) -/
theorem STP1 {mi : Nat} {ret : Option AV → Mm → Prop} {thr : Nat → Mm → Prop} {k : Nat → AL → List AV → Mm → Prop} {pc : Nat} {ls : AL} {st : List AV} {M : Mm} :
  (∀ z, stp mi ret thr k (.iconst z) 1 pc ls st M = k (pc + 1) ls (.inl z :: st) M) ∧
  (∀ z, stp mi ret thr k (.bipush z) 2 pc ls st M = ((-128 ≤ z ∧ z ≤ 127) ∧ k (pc + 2) ls (.inl z :: st) M)) ∧
  (∀ z, stp mi ret thr k (.sipush z) 3 pc ls st M = ((-32768 ≤ z ∧ z ≤ 32767) ∧ k (pc + 3) ls (.inl z :: st) M)) ∧
  (∀ x, stp mi ret thr k (.ldc x) 2 pc ls st M = kO (ldcT (oM mi) x) (fun v => k (pc + 2) ls (v :: st) M)) ∧
  (∀ x, stp mi ret thr k (.ldc_w x) 3 pc ls st M = kI (ldcT (oM mi) x) (fun v => k (pc + 3) ls (.inl v :: st) M)) ∧
  (stp mi ret thr k (.iload_n 0) 1 pc ls st M = kI (am_ld ls 0) (fun x => k (pc + 1) ls (.inl x :: st) M)) ∧
  (stp mi ret thr k (.iload_n 1) 1 pc ls st M = kI (am_ld ls 1) (fun x => k (pc + 1) ls (.inl x :: st) M)) ∧
  (stp mi ret thr k (.iload_n 2) 1 pc ls st M = kI (am_ld ls 2) (fun x => k (pc + 1) ls (.inl x :: st) M)) ∧
  (stp mi ret thr k (.iload_n 3) 1 pc ls st M = kI (am_ld ls 3) (fun x => k (pc + 1) ls (.inl x :: st) M)) ∧
  (∀ j, stp mi ret thr k (.iload j) 2 pc ls st M = kI (am_ld ls j) (fun x => k (pc + 2) ls (.inl x :: st) M)) ∧
  (stp mi ret thr k (.aload_n 0) 1 pc ls st M = kR (am_ld ls 0) (fun x => k (pc + 1) ls (.inr x :: st) M)) ∧
  (stp mi ret thr k (.aload_n 1) 1 pc ls st M = kR (am_ld ls 1) (fun x => k (pc + 1) ls (.inr x :: st) M)) ∧
  (stp mi ret thr k (.aload_n 2) 1 pc ls st M = kR (am_ld ls 2) (fun x => k (pc + 1) ls (.inr x :: st) M)) ∧
  (stp mi ret thr k (.aload_n 3) 1 pc ls st M = kR (am_ld ls 3) (fun x => k (pc + 1) ls (.inr x :: st) M)) ∧
  (∀ j, stp mi ret thr k (.aload j) 2 pc ls st M = kR (am_ld ls j) (fun x => k (pc + 2) ls (.inr x :: st) M)) ∧
  (stp mi ret thr k (.istore_n 0) 1 pc ls st M = k1 st (fun x r => kO (am_st ls 0 (.inl x)) (fun ls' => k (pc + 1) ls' r M))) ∧
  (stp mi ret thr k (.istore_n 1) 1 pc ls st M = k1 st (fun x r => kO (am_st ls 1 (.inl x)) (fun ls' => k (pc + 1) ls' r M))) ∧
  (stp mi ret thr k (.istore_n 2) 1 pc ls st M = k1 st (fun x r => kO (am_st ls 2 (.inl x)) (fun ls' => k (pc + 1) ls' r M))) ∧
  (stp mi ret thr k (.istore_n 3) 1 pc ls st M = k1 st (fun x r => kO (am_st ls 3 (.inl x)) (fun ls' => k (pc + 1) ls' r M))) ∧
  (∀ j, stp mi ret thr k (.istore j) 2 pc ls st M = k1 st (fun x r => kO (am_st ls j (.inl x)) (fun ls' => k (pc + 2) ls' r M))) ∧
  (stp mi ret thr k (.astore_n 0) 1 pc ls st M = kr st (fun x r => kO (am_st ls 0 (.inr x)) (fun ls' => k (pc + 1) ls' r M))) ∧
  (stp mi ret thr k (.astore_n 1) 1 pc ls st M = kr st (fun x r => kO (am_st ls 1 (.inr x)) (fun ls' => k (pc + 1) ls' r M))) ∧
  (stp mi ret thr k (.astore_n 2) 1 pc ls st M = kr st (fun x r => kO (am_st ls 2 (.inr x)) (fun ls' => k (pc + 1) ls' r M))) ∧
  (stp mi ret thr k (.astore_n 3) 1 pc ls st M = kr st (fun x r => kO (am_st ls 3 (.inr x)) (fun ls' => k (pc + 1) ls' r M))) ∧
  (∀ j, stp mi ret thr k (.astore j) 2 pc ls st M = kr st (fun x r => kO (am_st ls j (.inr x)) (fun ls' => k (pc + 2) ls' r M))) ∧
  (∀ j z, stp mi ret thr k (.iinc j z) 3 pc ls st M = kI (am_ld ls j) (fun x => kO (am_st ls j (.inl (x + z))) (fun ls' => k (pc + 3) ls' st M))) := by
  refine ⟨?_, ?_, ?_, ?_, ?_, ?_, ?_, ?_, ?_, ?_, ?_, ?_, ?_, ?_, ?_, ?_, ?_, ?_, ?_, ?_, ?_, ?_, ?_, ?_, ?_, ?_⟩ <;> (intros; simp only [stp, true_and]; try rfl)
theorem STP2 {mi : Nat} {ret : Option AV → Mm → Prop} {thr : Nat → Mm → Prop} {k : Nat → AL → List AV → Mm → Prop} {pc : Nat} {ls : AL} {M : Mm} :
  (∀ (r : List AV) x y, stp mi ret thr k .iadd 1 pc ls (.inl y :: .inl x :: r) M = k (pc + 1) ls (.inl (x + y) :: r) M) ∧
  (∀ (r : List AV) x y, stp mi ret thr k .isub 1 pc ls (.inl y :: .inl x :: r) M = k (pc + 1) ls (.inl (x - y) :: r) M) ∧
  (∀ (r : List AV) x y, stp mi ret thr k .imul 1 pc ls (.inl y :: .inl x :: r) M = k (pc + 1) ls (.inl (x * y) :: r) M) ∧
  (∀ (r : List AV) x y, stp mi ret thr k .idiv 1 pc ls (.inl y :: .inl x :: r) M = (inR x ∧ inR y ∧ ¬ y = 0 ∧ k (pc + 1) ls (.inl (x.tdiv y) :: r) M)) ∧
  (∀ (r : List AV) x y, stp mi ret thr k .irem 1 pc ls (.inl y :: .inl x :: r) M = (inR x ∧ inR y ∧ ¬ y = 0 ∧ k (pc + 1) ls (.inl (x.tmod y) :: r) M)) ∧
  (∀ (r : List AV) x, stp mi ret thr k .ineg 1 pc ls (.inl x :: r) M = k (pc + 1) ls (.inl (-x) :: r) M) ∧
  (∀ (r : List AV) x y, stp mi ret thr k .iand 1 pc ls (.inl y :: .inl x :: r) M = k (pc + 1) ls (.inl (bAnd x y) :: r) M) ∧
  (∀ (r : List AV) x y, stp mi ret thr k .ior 1 pc ls (.inl y :: .inl x :: r) M = k (pc + 1) ls (.inl (bOr x y) :: r) M) ∧
  (∀ (r : List AV) x y, stp mi ret thr k .ixor 1 pc ls (.inl y :: .inl x :: r) M = k (pc + 1) ls (.inl (bXor x y) :: r) M) ∧
  (∀ (r : List AV) x y, stp mi ret thr k .ishl 1 pc ls (.inl y :: .inl x :: r) M = k (pc + 1) ls (.inl (bShl x y) :: r) M) ∧
  (∀ (r : List AV) x y, stp mi ret thr k .ishr 1 pc ls (.inl y :: .inl x :: r) M = k (pc + 1) ls (.inl (bShr x y) :: r) M) ∧
  (∀ (r : List AV) x y, stp mi ret thr k .iushr 1 pc ls (.inl y :: .inl x :: r) M = k (pc + 1) ls (.inl (bUshr x y) :: r) M) ∧
  (∀ (r : List AV) v, stp mi ret thr k .dup 1 pc ls (v :: r) M = k (pc + 1) ls (v :: v :: r) M) ∧
  (∀ (r : List AV) v, stp mi ret thr k .pop 1 pc ls (v :: r) M = k (pc + 1) ls r M) ∧
  (∀ (r : List AV) v w, stp mi ret thr k .dup2 1 pc ls (v :: w :: r) M = k (pc + 1) ls (v :: w :: v :: w :: r) M) ∧
  (∀ (st : List AV) f, stp mi ret thr k (.goto f) 3 pc ls st M = (am_okt pc f ∧ k (am_tgt pc f) ls st M)) ∧
  (∀ (r : List AV) q f x, stp mi ret thr k (.ifCond q f) 3 pc ls (.inl x :: r) M = (am_okt pc f ∧ inR x ∧ (cz q x → k (am_tgt pc f) ls r M) ∧ (¬ cz q x → k (pc + 3) ls r M))) ∧
  (∀ (r : List AV) q f x y, stp mi ret thr k (.if_icmp q f) 3 pc ls (.inl y :: .inl x :: r) M = (am_okt pc f ∧ inR x ∧ inR y ∧ (cc2 q x y → k (am_tgt pc f) ls r M) ∧ (¬ cc2 q x y → k (pc + 3) ls r M))) ∧
  (∀ (r : List AV) d lo hi fs n x, stp mi ret thr k (.tableswitch d lo hi fs) n pc ls (.inl x :: r) M = (am_okt pc d ∧ (fs.toList.length : Int) = hi - lo + 1 ∧ (∀ f ∈ fs.toList, am_okt pc f) ∧ inR x ∧ (x < lo ∨ hi < x → k (am_tgt pc d) ls r M) ∧ swc x pc (fun t => k t ls r M) lo fs.toList)) ∧
  (∀ (r : List AV) x a, stp mi ret thr k (.getfield x) 3 pc ls (.inr a :: r) M = kO (fldT (oM mi) x) (fun q => kO (am_fld (lay a) q.1 q.2.1 (M a q.2.1)) (fun v => k (pc + 3) ls (v :: r) M))) ∧
  (∀ (r : List AV) x a v, stp mi ret thr k (.putfield x) 3 pc ls (.inl v :: .inr a :: r) M = kO (fldT (oM mi) x) (fun q => q.2.2 ≤ 1 ∧ (q.2.2 = 1 → v = 0 ∨ v = 1) ∧ kI (am_fld (lay a) q.1 q.2.1 (M a q.2.1)) (fun _ => k (pc + 3) ls r (mset M a q.2.1 v)))) ∧
  (∀ (r : List AV) a i, stp mi ret thr k .iaload 1 pc ls (.inl i :: .inr a :: r) M = kA (lay a) 0 (fun z => (0 ≤ i ∧ i < z) ∧ k (pc + 1) ls (.inl (M a i.toNat) :: r) M)) ∧
  (∀ (r : List AV) a i, stp mi ret thr k .baload 1 pc ls (.inl i :: .inr a :: r) M = kA (lay a) 1 (fun z => (0 ≤ i ∧ i < z) ∧ k (pc + 1) ls (.inl (M a i.toNat) :: r) M)) ∧
  (∀ (r : List AV) a i, stp mi ret thr k .aaload 1 pc ls (.inl i :: .inr a :: r) M = kQ (lay a) (fun rs => (0 ≤ i ∧ i < rs.length) ∧ k (pc + 1) ls (.inr (rs.getD i.toNat 0) :: r) M)) ∧
  (∀ (r : List AV) a i v, stp mi ret thr k .iastore 1 pc ls (.inl v :: .inl i :: .inr a :: r) M = kA (lay a) 0 (fun z => (0 ≤ i ∧ i < z) ∧ k (pc + 1) ls r (mset M a i.toNat v))) ∧
  (∀ (r : List AV) a i v, stp mi ret thr k .bastore 1 pc ls (.inl v :: .inl i :: .inr a :: r) M = kA (lay a) 1 (fun z => (0 ≤ i ∧ i < z) ∧ (v = 0 ∨ v = 1) ∧ k (pc + 1) ls r (mset M a i.toNat v))) ∧
  (∀ (r : List AV) a, stp mi ret thr k .arraylength 1 pc ls (.inr a :: r) M = kO (am_len (lay a)) (fun z => k (pc + 1) ls (.inl z :: r) M)) ∧
  (∀ x, stp mi ret thr k .ireturn 1 pc ls [.inl x] M = ((rkM mi = 1 ∨ rkM mi = 2 ∧ (x = 0 ∨ x = 1)) ∧ ret (some (.inl x)) M)) ∧
  (∀ x, stp mi ret thr k .areturn 1 pc ls [.inr x] M = (rkM mi = 3 ∧ ret (some (.inr x)) M)) ∧
  (stp mi ret thr k .return_ 1 pc ls [] M = (rkM mi = 0 ∧ ret none M)) := by
  refine ⟨?_, ?_, ?_, ?_, ?_, ?_, ?_, ?_, ?_, ?_, ?_, ?_, ?_, ?_, ?_, ?_, ?_, ?_, ?_, ?_, ?_, ?_, ?_, ?_, ?_, ?_, ?_, ?_, ?_, ?_⟩ <;> (intros; simp only [stp, true_and, k1, k2, kv, kvv, kr, kri, krii]; try rfl)
theorem STP3 {mi : Nat} {ret : Option AV → Mm → Prop} {thr : Nat → Mm → Prop} {k : Nat → AL → List AV → Mm → Prop} {pc : Nat} {ls : AL} {st : List AV} {M : Mm} :
  (∀ x, stp mi ret thr k (.invokevirtual x) 3 pc ls st M = kO (invT (oM mi) x) (fun q => kVt mi q.1 q.2 k pc ls st M)) ∧
  (∀ x, stp mi ret thr k (.invokestatic x) 3 pc ls st M = kO (invT (oM mi) x) (fun q => kSt mi q.1 q.2 k pc ls st M)) ∧
  (∀ x, stp mi ret thr k (.new x) 3 pc ls st M = kO (excT (oM mi) x) (fun q => decode (cM mi) (pc + 3) = .ok (.dup, 1) ∧ decode (cM mi) (pc + 4) = .ok (.invokespecial q.2, 3) ∧ decode (cM mi) (pc + 7) = .ok (.athrow, 1) ∧ thr q.1 M)) := by
  refine ⟨?_, ?_, ?_⟩ <;> (intros; simp only [stp, true_and])
theorem STP4 {mi q : Nat} {k : Nat → AL → List AV → Mm → Prop} {pc : Nat} {ls : AL} {M : Mm} :
  (∀ st, kVt mi q 0 k pc ls st M = kO (am_args (nM q) st []) (fun ar => ar.2.length ≤ 8 ∧ dM q < dM mi ∧ am_rcv q ar.1 ∧ CallA (rkM q) q ar.1 M k (pc + 3) ls ar.2)) ∧
  (∀ st, kSt mi q 1 k pc ls st M = kO (am_args (nM q) st []) (fun ar => ar.2.length ≤ 8 ∧ dM q < dM mi ∧ CallA (rkM q) q ar.1 M k (pc + 3) ls ar.2)) ∧
  (∀ st, kSt mi q 2 k pc ls st M = kO (am_args (nM q) st []) (fun ar => ar.2.length ≤ 8 ∧ dM q < dM mi ∧ CallA (rkM q) q ar.1 M k (pc + 3) ls ar.2)) ∧
  (∀ x y (r : List AV), kSt mi q 3 k pc ls (.inl y :: .inl x :: r) M = (1 ≤ dM mi ∧ inR x ∧ inR y ∧ r.length ≤ 8 ∧ k (pc + 3) ls (.inl (max x y) :: r) M)) ∧
  (∀ x y (r : List AV), kSt mi q 4 k pc ls (.inl y :: .inl x :: r) M = (1 ≤ dM mi ∧ inR x ∧ inR y ∧ r.length ≤ 8 ∧ k (pc + 3) ls (.inl (min x y) :: r) M)) ∧
  (∀ x (r : List AV), kSt mi q 5 k pc ls (.inl x :: r) M = (1 ≤ dM mi ∧ inR x ∧ r.length ≤ 8 ∧ k (pc + 3) ls (.inl (max x (-x)) :: r) M)) :=
  ⟨fun _ => rfl, fun _ => rfl, fun _ => rfl, fun _ _ _ => rfl, fun _ _ _ => rfl, fun _ _ => rfl⟩
theorem STP5 {mj q : Nat} {ret : Option AV → Mm → Prop} {thr : Nat → Mm → Prop} {cuts : List Nat} {K : Nat → AL → List AV → Mm → Prop} {n pc : Nat} {ls : AL} {M : Mm} :
  (∀ as r, CallA 0 q as M (kont mj ret thr cuts K n) pc ls r = CallV q as M (fun M' => konM mj ret thr cuts K n M' pc ls r)) ∧ (∀ as r, CallA 1 q as M (kont mj ret thr cuts K n) pc ls r = CallI q as M (fun x M' => konM mj ret thr cuts K n M' pc ls (.inl x :: r))) ∧
  (∀ as r, CallA 2 q as M (kont mj ret thr cuts K n) pc ls r = CallI q as M (fun x M' => konM mj ret thr cuts K n M' pc ls (.inl x :: r))) ∧ (∀ as r, CallA 3 q as M (kont mj ret thr cuts K n) pc ls r = CallR q as M (fun x M' => konM mj ret thr cuts K n M' pc ls (.inr x :: r))) :=
  ⟨fun _ _ => rfl, fun _ _ => rfl, fun _ _ => rfl, fun _ _ => rfl⟩
theorem AMK : (∀ (a : Option AV) l, am_ld (a :: l) 0 = a) ∧ (∀ (a : Option AV) l n, am_ld (a :: l) (n + 1) = am_ld l n) ∧ (∀ (a : Option AV) l v, am_st (a :: l) 0 v = some (some v :: l)) ∧
  (∀ (a : Option AV) l n v, am_st (a :: l) (n + 1) v = (am_st l n v).map (fun l' => a :: l')) ∧ (∀ st acc, am_args 0 st acc = some (acc, st)) ∧ (∀ n v st acc, am_args (n + 1) (v :: st) acc = am_args n st (v :: acc)) ∧
  (∀ n, am_ent [] (n + 1) = none :: am_ent [] n) ∧ (∀ a as n, am_ent (a :: as) (n + 1) = some a :: am_ent as n) ∧ (∀ as, am_ent as 0 = []) ∧
  (∀ (α : Type) (x : α) f, kO (some x) f = f x) ∧ (∀ x f, kI (some (.inl x)) f = f x) ∧ (∀ x f, kR (some (.inr x)) f = f x) ∧
  (∀ c fs ci v k, am_fld (.inr (.inl (c, fs))) ci k v = if c = ci then (match fs[k]? with
    | some none => some (.inl v)
    | some (some r) => some (.inr r)
    | none => none) else none) ∧
  (∀ n, am_len (.inl (0, n)) = some n) ∧ (∀ n, am_len (.inl (1, n)) = some n) ∧ (∀ t rs, am_len (.inr (.inr (t, rs))) = some rs.length) ∧
  (∀ t n t' f, kA (.inl (t, n)) t' f = (t = t' ∧ f n)) ∧ (∀ t rs f, kQ (.inr (.inr (t, rs))) f = f rs) ∧ (∀ c fs c', kc (.inr (.inl (c, fs))) c' = (c = c')) ∧
  (∀ x pc k v, swc x pc k v [] = True) ∧ (∀ x pc k v o os, swc x pc k v (o :: os) = ((x = v → k (am_tgt pc o)) ∧ swc x pc k (v + 1) os)) ∧
  (∀ x y r f, k2 (.inl y :: .inl x :: r) f = f x y r) ∧ (∀ x r f, k1 (.inl x :: r) f = f x r) ∧
  (∀ mj a as, am_rcv mj (.inr a :: as) = (kc (lay a) (oM mj) ∨ (oM mj = 15 ∧ NN ≤ a ∧ a < NN + 7))) := by
  refine ⟨?_, ?_, ?_, ?_, ?_, ?_, ?_, ?_, ?_, ?_, ?_, ?_, ?_, ?_, ?_, ?_, ?_, ?_, ?_, ?_, ?_, ?_, ?_, ?_⟩ <;> (intros; first | rfl | simp [am_ent] | simp [swc])
theorem CZ : (∀ x, cz .eq x = (x = 0)) ∧ (∀ x, cz .ne x = ¬ (x = 0)) ∧ (∀ x, cz .lt x = (x < 0)) ∧ (∀ x, cz .ge x = (0 ≤ x)) ∧ (∀ x, cz .gt x = (0 < x)) ∧ (∀ x, cz .le x = (x ≤ 0)) ∧
  (∀ x y, cc2 .eq x y = (x = y)) ∧ (∀ x y, cc2 .ne x y = ¬ (x = y)) ∧ (∀ x y, cc2 .lt x y = (x < y)) ∧ (∀ x y, cc2 .ge x y = (y ≤ x)) ∧ (∀ x y, cc2 .gt x y = (y < x)) ∧ (∀ x y, cc2 .le x y = (x ≤ y)) :=
  ⟨fun _ => rfl, fun _ => rfl, fun _ => rfl, fun _ => rfl, fun _ => rfl, fun _ => rfl, fun _ _ => rfl, fun _ _ => rfl, fun _ _ => rfl, fun _ _ => rfl, fun _ _ => rfl, fun _ _ => rfl⟩
