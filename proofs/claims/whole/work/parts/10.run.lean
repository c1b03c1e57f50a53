/-! SOUNDNESS: the whole run. -/
theorem swc_el {x : Int} {pc : Nat} {k : Nat → Prop} : ∀ {os : List Int} {v : Int}, swc x pc k v os → ∀ (j : Nat) (o : Int), os[j]? = some o → x = v + j → k (am_tgt pc o)
  | [], _, _, j, o, h, _ => by simp at h
  | o' :: os, v, h, 0, o, h1, h2 => by
    simp only [List.getElem?_cons_zero, Option.some.injEq] at h1
    subst h1
    exact h.1 (by omega)
  | o' :: os, v, h, j + 1, o, h1, h2 => by
    simp only [List.getElem?_cons_succ] at h1
    exact swc_el h.2 j o h1 (by omega)
section RUN
variable {p : Program} {l : Launch} {e : Env} {R : Room} {s : State} {m : MethodId} {args : Array Value} {below : List Frame} {meth : Method} {c : Code} {Q : State → Prop}
variable {D : va_G} {tA : Nat → ClassId} {adr adV : Nat → Nat} {mi : Nat}
/-- how a method ends, at pc, with v -/
def RDm (mi : Nat) (v : Option AV) (pc : Nat) : Prop := match v with
  | none => rM mi = none ∧ decode (cM mi) pc = .ok (.return_, 1)
  | some (.inl x) => (∃ ty, rM mi = some ty ∧ narrow ty (.int (iN x)) = .int (iN x)) ∧ decode (cM mi) pc = .ok (.ireturn, 1)
  | some (.inr _) => (∃ n, rM mi = some (.object n)) ∧ decode (cM mi) pc = .ok (.areturn, 1)
theorem s_tsw {d lo hi : Int} {fs : Array Int} {n : Nat} {x : Int} {ls : AL} {r : List AV} {M : Mm} {pc : Nat} {k : Nat → Prop} (F : FxA p R s m args c D tA adr adV mi) (hd : decode (cM mi) pc = .ok (.tableswitch d lo hi fs, n)) (ht : am_okt pc d) (hlen : (fs.toList.length : Int) = hi - lo + 1) (hfs : ∀ f ∈ fs.toList, am_okt pc f) (h : inR x)
    (k1 : x < lo ∨ hi < x → k (am_tgt pc d)) (k2 : swc x pc k lo fs.toList) (hk : ∀ t, k t → Sm p l e R s m args below meth c Q D tA adr mi t ls r M) : Sm p l e R s m args below meth c Q D tA adr mi pc ls (.inl x :: r) M := by
  intro H locs lsC g hl
  obtain ⟨hx, hb, -⟩ := F
  by_cases ho : x < lo ∨ hi < x
  · exact lv_tableOut hx hb hd (by rw [iN_toInt h]; exact ho) ht (hk _ (k1 ho) H locs lsC g hl)
  · have hj : (x - lo).toNat < fs.toList.length := by omega
    have hg : fs.toList[(x - lo).toNat]? = some (fs.toList[(x - lo).toNat]) := List.getElem?_eq_getElem hj
    refine lv_tableIn hx hb hd (by rw [iN_toInt h]; omega) (by rw [iN_toInt h]; omega) (off := fs.toList[(x - lo).toNat]) ?_ (hfs _ (List.getElem_mem hj)) (hk _ (swc_el k2 _ _ hg (by omega)) H locs lsC g hl)
    rw [iN_toInt h, ← Array.getElem?_toList]
    exact hg
theorem stp_sound {ret : Option AV → Mm → Prop} {thr : Nat → Mm → Prop} {k : Nat → AL → List AV → Mm → Prop} (F : FxA p R s m args c D tA adr adV mi) (hmi : mi < mtN)
    (hret : ∀ v M' H locs pc lsC, ret v M' → GD D tA adr s M' H locs → lsC.size = lM mi → RDm mi v pc → W p l e R s m args below meth c H locs 0 0 Q (F0 m pc lsC (v.toList.map (cvA adr))))
    (hthr : ∀ q x ic M' H locs pc lsC (st : List AV), thr q M' → GD D tA adr s M' H locs → lsC.size = lM mi → excT (oM mi) x = some (q, ic) → decode (cM mi) pc = .ok (.new x, 3) → decode (cM mi) (pc + 3) = .ok (.dup, 1) → decode (cM mi) (pc + 4) = .ok (.invokespecial ic, 3) → decode (cM mi) (pc + 7) = .ok (.athrow, 1) →
      W p l e R s m args below meth c H locs 0 0 Q (F0 m pc lsC (st.map (cvA adr))))
    (hk : ∀ pc ls st M, k pc ls st M → Sm p l e R s m args below meth c Q D tA adr mi pc ls st M) {i : Instr} {n pc : Nat} {ls : AL} {st : List AV} {M : Mm} (hd : decode (cM mi) pc = .ok (i, n)) (h : stp mi ret thr k i n pc ls st M) : Sm p l e R s m args below meth c Q D tA adr mi pc ls st M := by
  have F0' := F
  obtain ⟨hx, hb, hml, hown, hts, hK, hC, hR, hfr, hlo, ho⟩ := F
  obtain ⟨mw, mk⟩ := meth_el hmi
  simp only [okM, Bool.and_eq_true, Bool.or_eq_true, decide_eq_true_eq] at mk
  have mret := mk.2
  cases i with
  | iconst z => obtain ⟨rfl, h⟩ := h; exact fun H locs lsC g hl => lv_iconst hx hb hd rfl (hk _ _ _ _ h H locs lsC g hl)
  | bipush z => obtain ⟨rfl, ⟨h1, h2⟩, h⟩ := h; exact fun H locs lsC g hl => lv_bipush hx hb hd (i8_iN h1 h2) (hk _ _ _ _ h H locs lsC g hl)
  | sipush z => obtain ⟨rfl, ⟨h1, h2⟩, h⟩ := h; exact fun H locs lsC g hl => lv_sipush hx hb hd (i16_iN h1 h2) (hk _ _ _ _ h H locs lsC g hl)
  | ldc x => obtain ⟨rfl, h⟩ := h; obtain ⟨v, h1, h⟩ := kO_el h; exact s_ldc F0' hd h1 (hk _ _ _ _ h)
  | ldc_w x => obtain ⟨rfl, h⟩ := h; obtain ⟨v, h1, h⟩ := kI_el h; exact s_ldcw F0' hd h1 (hk _ _ _ _ h)
  | iload_n j => obtain ⟨rfl, h⟩ := h; obtain ⟨x, h1, h⟩ := kI_el h; exact fun H locs lsC g hl => lv_iload_n hx hb hd rfl (hl.2.2.2 _ _ h1) (hk _ _ _ _ h H locs lsC g hl)
  | iload j => obtain ⟨rfl, h⟩ := h; obtain ⟨x, h1, h⟩ := kI_el h; exact fun H locs lsC g hl => lv_iload hx hb hd (hl.2.2.2 _ _ h1) (hk _ _ _ _ h H locs lsC g hl)
  | aload_n j => obtain ⟨rfl, h⟩ := h; obtain ⟨x, h1, h⟩ := kR_el h; exact fun H locs lsC g hl => lv_aload_n hx hb hd rfl (hl.2.2.2 _ _ h1) (hk _ _ _ _ h H locs lsC g hl)
  | aload j => obtain ⟨rfl, h⟩ := h; obtain ⟨x, h1, h⟩ := kR_el h; exact fun H locs lsC g hl => lv_aload hx hb hd (hl.2.2.2 _ _ h1) (hk _ _ _ _ h H locs lsC g hl)
  | istore_n j => obtain ⟨rfl, h⟩ := h; obtain ⟨x, r, rfl, h⟩ := k1_el h; obtain ⟨ls', h1, h⟩ := kO_el h; exact fun H locs lsC g hl => lv_istore_n hx hb hd rfl hl.has (hl.lt h1) rfl (fun ls2 h2 => hk _ _ _ _ h H locs ls2 g (hl.set h1 h2))
  | istore j => obtain ⟨rfl, h⟩ := h; obtain ⟨x, r, rfl, h⟩ := k1_el h; obtain ⟨ls', h1, h⟩ := kO_el h; exact fun H locs lsC g hl => lv_istore hx hb hd hl.has (hl.lt h1) rfl (fun ls2 h2 => hk _ _ _ _ h H locs ls2 g (hl.set h1 h2))
  | astore_n j => obtain ⟨rfl, h⟩ := h; obtain ⟨x, r, rfl, h⟩ := kr_el h; obtain ⟨ls', h1, h⟩ := kO_el h; exact fun H locs lsC g hl => lv_astore_n hx hb hd rfl hl.has (hl.lt h1) rfl (fun ls2 h2 => hk _ _ _ _ h H locs ls2 g (hl.set h1 h2))
  | astore j => obtain ⟨rfl, h⟩ := h; obtain ⟨x, r, rfl, h⟩ := kr_el h; obtain ⟨ls', h1, h⟩ := kO_el h; exact fun H locs lsC g hl => lv_astore hx hb hd hl.has (hl.lt h1) rfl (fun ls2 h2 => hk _ _ _ _ h H locs ls2 g (hl.set h1 h2))
  | iinc j z =>
    obtain ⟨rfl, h⟩ := h; obtain ⟨x, h0, h⟩ := kI_el h; obtain ⟨ls', h1, h⟩ := kO_el h
    intro H locs lsC g hl
    obtain ⟨kk, hkk⟩ := List.mem_iff_getElem?.mp (lvL_mem (adr := adr) (ab := ls) (q := (j, .int (iN x))).mpr ⟨_, h0, rfl⟩)
    exact lv_iinc hx hb hd hl.has hkk (v := iN (x + z)) (iN_add x z) (hl.lt h1) rfl (fun ls2 h2 => hk _ _ _ _ h H locs ls2 g (hl.set h1 h2))
  | iadd => obtain ⟨rfl, h⟩ := h; obtain ⟨x, y, r, rfl, h⟩ := k2_el h; exact fun H locs lsC g hl => lv_iadd hx hb hd (by rw [iN_add]; exact hk _ _ _ _ h H locs lsC g hl)
  | isub => obtain ⟨rfl, h⟩ := h; obtain ⟨x, y, r, rfl, h⟩ := k2_el h; exact fun H locs lsC g hl => lv_isub hx hb hd (by rw [iN_sub]; exact hk _ _ _ _ h H locs lsC g hl)
  | imul => obtain ⟨rfl, h⟩ := h; obtain ⟨x, y, r, rfl, h⟩ := k2_el h; exact fun H locs lsC g hl => lv_imul hx hb hd (by rw [iN_mul]; exact hk _ _ _ _ h H locs lsC g hl)
  | ineg => obtain ⟨rfl, h⟩ := h; obtain ⟨x, r, rfl, h⟩ := k1_el h; exact fun H locs lsC g hl => lv_ineg hx hb hd (by rw [iN_neg]; exact hk _ _ _ _ h H locs lsC g hl)
  | idiv => obtain ⟨rfl, h⟩ := h; obtain ⟨x, y, r, rfl, hx1, hy1, hne, h⟩ := k2_el h; exact fun H locs lsC g hl => lv_idiv hx hb hd (fun z => hne ((inR_i hy1).mp z)) (by rw [iN_div hx1 hy1]; exact hk _ _ _ _ h H locs lsC g hl)
  | irem => obtain ⟨rfl, h⟩ := h; obtain ⟨x, y, r, rfl, hx1, hy1, hne, h⟩ := k2_el h; exact fun H locs lsC g hl => lv_irem hx hb hd (fun z => hne ((inR_i hy1).mp z)) (by rw [iN_rem hx1 hy1]; exact hk _ _ _ _ h H locs lsC g hl)
  | iand => obtain ⟨rfl, h⟩ := h; obtain ⟨x, y, r, rfl, h⟩ := k2_el h; exact fun H locs lsC g hl => lv_iand hx hb hd (by rw [← iN_ti (iN x &&& iN y)]; exact hk _ _ _ _ h H locs lsC g hl)
  | ior => obtain ⟨rfl, h⟩ := h; obtain ⟨x, y, r, rfl, h⟩ := k2_el h; exact fun H locs lsC g hl => lv_ior hx hb hd (by rw [← iN_ti (iN x ||| iN y)]; exact hk _ _ _ _ h H locs lsC g hl)
  | ixor => obtain ⟨rfl, h⟩ := h; obtain ⟨x, y, r, rfl, h⟩ := k2_el h; exact fun H locs lsC g hl => lv_ixor hx hb hd (by rw [← iN_ti (iN x ^^^ iN y)]; exact hk _ _ _ _ h H locs lsC g hl)
  | ishl => obtain ⟨rfl, h⟩ := h; obtain ⟨x, y, r, rfl, h⟩ := k2_el h; exact fun H locs lsC g hl => lv_ishl hx hb hd (by rw [← iN_ti (iN x <<< (iN y &&& 31))]; exact hk _ _ _ _ h H locs lsC g hl)
  | ishr => obtain ⟨rfl, h⟩ := h; obtain ⟨x, y, r, rfl, h⟩ := k2_el h; exact fun H locs lsC g hl => lv_ishr hx hb hd (by rw [← iN_ti (iN x >>> (iN y &&& 31))]; exact hk _ _ _ _ h H locs lsC g hl)
  | iushr => obtain ⟨rfl, h⟩ := h; obtain ⟨x, y, r, rfl, h⟩ := k2_el h; exact fun H locs lsC g hl => lv_iushr hx hb hd (iN_ti _).symm (hk _ _ _ _ h H locs lsC g hl)
  | dup => obtain ⟨rfl, h⟩ := h; obtain ⟨v, r, rfl, h⟩ := kv_el h; exact fun H locs lsC g hl => lv_dup hx hb hd (cvA_cat adr v) (hk _ _ _ _ h H locs lsC g hl)
  | pop => obtain ⟨rfl, h⟩ := h; obtain ⟨v, r, rfl, h⟩ := kv_el h; exact fun H locs lsC g hl => lv_pop hx hb hd (cvA_cat adr v) (hk _ _ _ _ h H locs lsC g hl)
  | dup2 => obtain ⟨rfl, h⟩ := h; obtain ⟨v, w, r, rfl, h⟩ := kvv_el h; exact fun H locs lsC g hl => lv_dup2_11 hx hb hd (cvA_cat adr v) (cvA_cat adr w) (hk _ _ _ _ h H locs lsC g hl)
  | goto f => obtain ⟨rfl, ht, h⟩ := h; exact fun H locs lsC g hl => lv_goto hx hb hd ht (hk _ _ _ _ h H locs lsC g hl)
  | ifCond q f => obtain ⟨rfl, ht, h⟩ := h; obtain ⟨x, r, rfl, h0, h1, h2⟩ := k1_el h; exact s_ifz F0' hd ht h0 (fun z => hk _ _ _ _ (h1 z)) (fun z => hk _ _ _ _ (h2 z))
  | if_icmp q f => obtain ⟨rfl, ht, h⟩ := h; obtain ⟨x, y, r, rfl, h0, h3, h1, h2⟩ := k2_el h; exact s_icmp F0' hd ht h0 h3 (fun z => hk _ _ _ _ (h1 z)) (fun z => hk _ _ _ _ (h2 z))
  | tableswitch d lo hi fs => obtain ⟨ht, hlen, hfs, h⟩ := h; obtain ⟨x, r, rfl, h0, h1, h2⟩ := k1_el h; exact s_tsw F0' hd ht hlen hfs h0 h1 h2 (fun t z => hk _ _ _ _ z)
  | getfield x => obtain ⟨rfl, h⟩ := h; obtain ⟨a, r, rfl, h⟩ := kr_el h; obtain ⟨⟨ci, sl, ty⟩, h1, h⟩ := kO_el h; obtain ⟨v, h2, h⟩ := kO_el h; exact s_getfield F0' hd h1 h2 (hk _ _ _ _ h)
  | putfield x =>
    obtain ⟨rfl, h⟩ := h
    match st, h with
    | .inl v :: .inr a :: r, h =>
      obtain ⟨⟨ci, sl, ty⟩, h1, h2, h3, h⟩ := kO_el h
      obtain ⟨y, h4, h⟩ := kI_el h
      exact s_putfield F0' hd h1 h2 h3 h4 (hk _ _ _ _ h)
  | iaload => obtain ⟨rfl, h⟩ := h; obtain ⟨a, i, r, rfl, h⟩ := kri_el h; obtain ⟨z, h1, ⟨h2, h3⟩, h⟩ := kA_el h; exact s_iaload F0' hd h1 h2 h3 (hk _ _ _ _ h)
  | baload => obtain ⟨rfl, h⟩ := h; obtain ⟨a, i, r, rfl, h⟩ := kri_el h; obtain ⟨z, h1, ⟨h2, h3⟩, h⟩ := kA_el h; exact s_baload F0' hd h1 h2 h3 (hk _ _ _ _ h)
  | aaload => obtain ⟨rfl, h⟩ := h; obtain ⟨a, i, r, rfl, h⟩ := kri_el h; obtain ⟨t, rs, h1, ⟨h2, h3⟩, h⟩ := kQ_el h; exact s_aaload F0' hd h1 h2 h3 (hk _ _ _ _ h)
  | iastore => obtain ⟨rfl, h⟩ := h; obtain ⟨a, i, v, r, rfl, h⟩ := krii_el h; obtain ⟨z, h1, ⟨h2, h3⟩, h⟩ := kA_el h; exact s_iastore F0' hd h1 h2 h3 (hk _ _ _ _ h)
  | bastore => obtain ⟨rfl, h⟩ := h; obtain ⟨a, i, v, r, rfl, h⟩ := krii_el h; obtain ⟨z, h1, ⟨h2, h3⟩, h4, h⟩ := kA_el h; exact s_bastore F0' hd h1 h2 h3 h4 (hk _ _ _ _ h)
  | arraylength => obtain ⟨rfl, h⟩ := h; obtain ⟨a, r, rfl, h⟩ := kr_el h; obtain ⟨z, h1, h⟩ := kO_el h; exact s_alen F0' hd h1 (hk _ _ _ _ h)
  | ireturn =>
    obtain ⟨rfl, h⟩ := h
    match st, h with
    | [.inl x], ⟨h1, h⟩ =>
      intro H locs lsC g hl
      refine hret (some (.inl x)) M H locs pc lsC h g hl.1 ⟨?_, hd⟩
      rcases mret with ((⟨a, b⟩ | ⟨a, b | b⟩) | ⟨a, b⟩) | ⟨a, b⟩
      · omega
      · exact ⟨_, b, vp_nar_int _⟩
      · omega
      · rcases h1 with h1 | ⟨h1, rfl | rfl⟩
        · omega
        · exact ⟨_, b, rfl⟩
        · exact ⟨_, b, rfl⟩
      · omega
  | areturn =>
    obtain ⟨rfl, h⟩ := h
    match st, h with
    | [.inr x], ⟨h1, h⟩ =>
      intro H locs lsC g hl
      refine hret (some (.inr x)) M H locs pc lsC h g hl.1 ⟨?_, hd⟩
      rcases mret with ((⟨a, b⟩ | ⟨a, b⟩) | ⟨a, b⟩) | ⟨a, b⟩
      · omega
      · omega
      · omega
      · split at b
        · rename_i n q
          exact ⟨n, q⟩
        · cases b
  | return_ =>
    obtain ⟨rfl, rfl, h1, h⟩ := h
    intro H locs lsC g hl
    refine hret none M H locs pc lsC h g hl.1 ⟨?_, hd⟩
    rcases mret with ((⟨a, b⟩ | ⟨a, b⟩) | ⟨a, b⟩) | ⟨a, b⟩
    · exact b
    · omega
    · omega
    · omega
  | invokevirtual x =>
    obtain ⟨rfl, h⟩ := h
    obtain ⟨⟨q, op⟩, h1, h⟩ := kO_el h
    dsimp only at h
    unfold kVt at h
    split at h
    · obtain ⟨⟨ar, rest⟩, h3, h4, h5, h6, h⟩ := kO_el h
      dsimp only at h
      unfold CallA at h
      split at h
      · exact s_invokevirtual F0' hd h1 h3 h4 h5 h6 h (fun v M' z => by obtain ⟨rfl, z⟩ := z; exact hk _ _ _ _ z)
      · exact s_invokevirtual F0' hd h1 h3 h4 h5 h6 h (fun v M' z => by obtain ⟨x, rfl, z⟩ := z; exact hk _ _ _ _ z)
      · exact s_invokevirtual F0' hd h1 h3 h4 h5 h6 h (fun v M' z => by obtain ⟨x, rfl, z⟩ := z; exact hk _ _ _ _ z)
      · exact s_invokevirtual F0' hd h1 h3 h4 h5 h6 h (fun v M' z => by obtain ⟨x, rfl, z⟩ := z; exact hk _ _ _ _ z)
      · exact h.elim
    · exact h.elim
  | invokestatic x =>
    obtain ⟨rfl, h⟩ := h
    obtain ⟨⟨q, op⟩, h1, h⟩ := kO_el h
    dsimp only at h
    have call : (op = 1 ∨ op = 2) → kCa mi q k pc ls st M → Sm p l e R s m args below meth c Q D tA adr mi pc ls st M := by
      intro h2 h
      obtain ⟨⟨ar, rest⟩, h3, h4, h5, h⟩ := kO_el h
      dsimp only at h
      unfold CallA at h
      split at h
      · exact s_invokestatic F0' hd h1 h2 h3 h4 h5 h (fun v M' z => by obtain ⟨rfl, z⟩ := z; exact hk _ _ _ _ z)
      · exact s_invokestatic F0' hd h1 h2 h3 h4 h5 h (fun v M' z => by obtain ⟨x, rfl, z⟩ := z; exact hk _ _ _ _ z)
      · exact s_invokestatic F0' hd h1 h2 h3 h4 h5 h (fun v M' z => by obtain ⟨x, rfl, z⟩ := z; exact hk _ _ _ _ z)
      · exact s_invokestatic F0' hd h1 h2 h3 h4 h5 h (fun v M' z => by obtain ⟨x, rfl, z⟩ := z; exact hk _ _ _ _ z)
      · exact h.elim
    unfold kSt at h
    split at h
    · exact call (Or.inl rfl) h
    · exact call (Or.inr rfl) h
    · obtain ⟨g1, h⟩ := h; obtain ⟨a, b, r, rfl, g2, g3, g4, h⟩ := k2_el h; exact s_max F0' hd h1 g1 g2 g3 g4 (hk _ _ _ _ h)
    · obtain ⟨g1, h⟩ := h; obtain ⟨a, b, r, rfl, g2, g3, g4, h⟩ := k2_el h; exact s_min F0' hd h1 g1 g2 g3 g4 (hk _ _ _ _ h)
    · obtain ⟨g1, h⟩ := h; obtain ⟨a, r, rfl, g2, g4, h⟩ := k1_el h; exact s_abs F0' hd h1 g1 g2 g4 (hk _ _ _ _ h)
    · exact h.elim
  | new x =>
    obtain ⟨rfl, h⟩ := h
    obtain ⟨⟨q, ic⟩, h1, h2, h3, h4, h⟩ := kO_el h
    intro H locs lsC g hl
    exact hthr q x ic M H locs pc lsC st h g hl.1 h1 hd h2 h3 h4
  | _ => exact False.elim h
/-- method mi, from pc, comes to an end of Qc -/
def WPm (mi : Nat) (Qc : Option AV → Mm → Prop) (pc : Nat) (ls : AL) (st : List AV) (M : Mm) : Prop := ∀ (p : Program) (l : Launch) (e : Env) (R : Room) (s : State) (m : MethodId) (args : Array Value) (below : List Frame) (meth : Method) (c : Code) (D : va_G) (tA : Nat → ClassId) (adr adV : Nat → Nat),
  FxA p R s m args c D tA adr adV mi → meth.sig.returnType = rM mi → meth.locks = false → Sm p l e R s m args below meth c (MQ below (Qm D tA adr Qc (AA adr s.heap.size)) args s 0 0 (AA adr s.heap.size)) D tA adr mi pc ls st M
theorem wpm_of {Qc : Option AV → Mm → Prop} {cuts : List Nat} (hmi : mi < mtN) : ∀ (n pc : Nat) (ls : AL) (st : List AV) (M : Mm), wp mi Qc (fun _ _ => False) cuts (WPm mi Qc) n pc ls st M → WPm mi Qc pc ls st M
  | 0, _, _, _, _, h => h.elim
  | n + 1, pc, ls, st, M, h => by
    intro p l e R s m args below meth c D tA adr adV F hr hlk
    simp only [wp] at h
    split at h
    · rename_i q hd
      have hx := F.1
      have hb := F.2.1
      refine stp_sound F hmi (fun v M' H locs pc lsC hv g hsz hrd => ?_) (fun _ _ _ _ _ _ _ _ _ z => z.elim) (fun pc ls st M hk => ?_) hd h
      · have hf : ∀ q ∈ locs, AA adr s.heap.size q.base := g.2.2.2.2
        have post : ∀ t : State, t.heap = H → Qm D tA adr Qc (AA adr s.heap.size) args s (.returned (v.map (cvA adr))) t := fun t ht =>
          ⟨⟨v, M', hv, rfl, by rw [ht]; exact g.1, g.2.1⟩, g.2.2.F ht⟩
        match v, hrd with
        | none, ⟨h1, h2⟩ => exact W.vret hx hb (by rw [hr, h1]) (fun t ht _ => post t ht) hf h2 hlk
        | some (.inl x), ⟨⟨ty, h1, h3⟩, h2⟩ => exact W.zret hx hb (by rw [hr, h1]) h3 (fun t ht _ => post t ht) hf h2 hlk
        | some (.inr x), ⟨⟨ty, h1⟩, h2⟩ => exact W.aret hx hb (by rw [hr, h1]) (Or.inl ⟨ty, rfl⟩) (Or.inr ⟨_, rfl⟩) (fun t ht _ => post t ht) hf h2 hlk
      · by_cases hc : pc ∈ cuts
        · rw [if_pos hc] at hk
          exact hk p l e R s m args below meth c D tA adr adV F hr hlk
        · rw [if_neg hc] at hk
          exact wpm_of hmi n pc ls st M hk p l e R s m args below meth c D tA adr adV F hr hlk
    · exact h.elim
end RUN
def am_ent : List AV → Nat → AL
  | _, 0 => []
  | [], n + 1 => none :: am_ent [] n
  | a :: as, n + 1 => some a :: am_ent as n
theorem am_ent_len : ∀ (as : List AV) (n : Nat), (am_ent as n).length = n
  | _, 0 => by simp [am_ent]
  | [], n + 1 => by simp [am_ent, am_ent_len [] n]
  | a :: as, n + 1 => by simp [am_ent, am_ent_len as n]
theorem am_ent_ld : ∀ (adr : Nat → Nat) (as : List AV) (n k i : Nat) (v : AV), am_ld (am_ent as n) i = some v → (k + i, cvA adr v) ∈ lv_args k (as.map (cvA adr))
  | _, _, 0, _, _, _, h => by simp [am_ent, am_ld] at h
  | _, [], n + 1, _, 0, _, h => by simp [am_ent, am_ld] at h
  | adr, [], n + 1, k, i + 1, v, h => by
    simp only [am_ent, am_ld] at h
    have := am_ent_ld adr [] n (k + 1) i v h
    simp [lv_args] at this
  | adr, a :: as, n + 1, k, 0, v, h => by
    simp only [am_ent, am_ld, Option.some.injEq] at h
    subst h
    simp [lv_args]
  | adr, a :: as, n + 1, k, i + 1, v, h => by
    simp only [am_ent, am_ld] at h
    have := am_ent_ld adr as n (k + 1) i v h
    simp only [List.map_cons, lv_args]
    rw [if_neg (by rw [cvA_cat]; decide)]
    refine List.mem_cons_of_mem _ ?_
    rw [show k + (i + 1) = k + 1 + i by omega]
    exact this
theorem lg_sl_len (adr : Nat → Nat) (as : List AV) : (lg_sl (as.map (cvA adr))).length = as.length := by
  induction as with
  | nil => rfl
  | cons a l ih =>
    have e : lg_sl ((a :: l).map (cvA adr)) = .val (cvA adr a) :: lg_sl (l.map (cvA adr)) := by
      simp [lg_sl, cvA_cat]
    rw [e]
    simp [ih]
theorem ent_LOK {adr : Nat → Nat} {as : List AV} {n : Nat} (h : as.length ≤ n) : LOK adr n ((lg_sl (as.map (cvA adr)) ++ List.replicate (n - (lg_sl (as.map (cvA adr))).length) Slot.unset).toArray) (am_ent as n) := by
  have h1 := lv_entry (as.map (cvA adr)) (n := n) (by rw [lg_sl_len]; exact h)
  refine ⟨h1.1, h1.2.1, am_ent_len as n, fun i v hv => ?_⟩
  have h2 := am_ent_ld adr as n 0 i v hv
  rw [Nat.zero_add] at h2
  exact h1.2.2 _ h2
theorem callP_of {mi : Nat} {as : List AV} {M : Mm} {Qc : Option AV → Mm → Prop} (hmi : mi < mtN) (ho : oM mi < 14) (hl : as.length ≤ lM mi) (h : WPm mi Qc 0 (am_ent as (lM mi)) [] M) : CallP mi as M Qc := by
  intro l D tA adr adV sz
  obtain ⟨m1, m2⟩ := meth_el hmi
  simp only [okM, Bool.and_eq_true, decide_eq_true_eq] at m2
  have hpl := m2.1.1.1.1.1.2
  have hcls : (yM mi).cls = Rn (oM mi) := m2.1.1.1.1.2
  refine Met.ofW (cc := cM mi) (maxL := lM mi) (ret := rM mi) hpl rfl ?_
  intro p e s m args below meth c s₁ B hml hv
  obtain ⟨rfl, hsz, hP, hK, hD, hC, hR⟩ := hv
  subst hsz
  have hts := atoms_spec (ws := wM mi) B.pre
  have hown : s.vm.findClass (Rn (oM mi)) = some m.cls := by rw [← hcls]; exact findClass_of_methodNamed B.named
  rw [lg_entry_eq]
  exact h p l e _ s m _ below meth c D tA adr adV ⟨B.exec, B.bytes, hml, hown, fun w hw => hts w (List.mem_cons_of_mem _ hw), hK, hC, hR, Nat.le_refl _, Nat.le_refl _, ho⟩ B.returns B.notSynchronized s.heap [] _ ⟨hP, hD, va_S.rf⟩ (ent_LOK hl)
theorem CallP.mono {mi : Nat} {as : List AV} {M : Mm} {Q1 Q2 : Option AV → Mm → Prop} (h : CallP mi as M Q1) (hq : ∀ v M', Q1 v M' → Q2 v M') : CallP mi as M Q2 := by
  intro l D tA adr adV sz p e h1 h2 h3 s m args below h4 h5 h6 h7
  obtain ⟨n, o, a1, a2, a3, ⟨⟨⟨v, M', b1, b2⟩, b3⟩, b4⟩⟩ := h l D tA adr adV sz p e h1 h2 h3 s m args below h4 h5 h6 h7
  exact ⟨n, o, a1, a2, a3, ⟨⟨v, M', hq v M' b1, b2⟩, b3⟩, b4⟩
theorem CallV.mono {mi : Nat} {as : List AV} {M : Mm} {Q1 Q2 : Mm → Prop} (h : CallV mi as M Q1) (hq : ∀ M', Q1 M' → Q2 M') : CallV mi as M Q2 := CallP.mono h (fun v M' z => ⟨z.1, hq _ z.2⟩)
theorem CallI.mono {mi : Nat} {as : List AV} {M : Mm} {Q1 Q2 : Int → Mm → Prop} (h : CallI mi as M Q1) (hq : ∀ x M', Q1 x M' → Q2 x M') : CallI mi as M Q2 := CallP.mono h (fun v M' z => by obtain ⟨x, z1, z2⟩ := z; exact ⟨x, z1, hq _ _ z2⟩)
theorem CallR.mono {mi : Nat} {as : List AV} {M : Mm} {Q1 Q2 : Nat → Mm → Prop} (h : CallR mi as M Q1) (hq : ∀ x M', Q1 x M' → Q2 x M') : CallR mi as M Q2 := CallP.mono h (fun v M' z => by obtain ⟨x, z1, z2⟩ := z; exact ⟨x, z1, hq _ _ z2⟩)
