/-! SOUNDNESS, instruction by instruction. -/
section STP
variable {p : Program} {l : Launch} {e : Env} {R : Room} {s : State} {m : MethodId} {args : Array Value} {below : List Frame} {meth : Method} {c : Code} {Q : State → Prop}
variable {D : va_G} {tA : Nat → ClassId} {adr adV : Nat → Nat} {mi : Nat}
theorem tyc_el {ci : Nat} (h : ci < 13) : ∃ ty : Nat → FieldType, (∀ k, k < Nc ci → parseFieldDescriptor (Tc ci k).2.2.1 = some (ty k)) ∧ ∀ a, a < Nc ci → ∀ b, b < Nc ci → a ≠ b → (Tc ci a).2.1 ≠ (Tc ci b).2.1 := by
  match ci, h with
  | 0, _ => exact ⟨tyX0, tyX0_ok, nmX0⟩
  | 1, _ => exact ⟨tyX1, tyX1_ok, nmX1⟩
  | 2, _ => exact ⟨tyX2, tyX2_ok, nmX2⟩
  | 3, _ => exact ⟨tyX3, tyX3_ok, nmX3⟩
  | 4, _ => exact ⟨tyX4, tyX4_ok, nmX4⟩
  | 5, _ => exact ⟨tyX5, tyX5_ok, nmX5⟩
  | 6, _ => exact ⟨tyX6, tyX6_ok, nmX6⟩
  | 7, _ => exact ⟨tyX7, tyX7_ok, nmX7⟩
  | 8, _ => exact ⟨tyX8, tyX8_ok, nmX8⟩
  | 9, _ => exact ⟨tyX9, tyX9_ok, nmX9⟩
  | 10, _ => exact ⟨tyX10, tyX10_ok, nmX10⟩
  | 11, _ => exact ⟨tyX11, tyX11_ok, nmX11⟩
  | 12, _ => exact ⟨tyX12, tyX12_ok, nmX12⟩
theorem s_getfield {x ci sl : Nat} {a : Nat} {v : AV} {ls : AL} {r : List AV} {M : Mm} {pc ty : Nat} (F : FxA p R s m args c D tA adr adV mi) (hd : decode (cM mi) pc = .ok (.getfield x, 3)) (hf : fldT (oM mi) x = some (ci, sl, ty)) (hv : am_fld (lay a) ci sl (M a sl) = some v)
    (hk : Sm p l e R s m args below meth c Q D tA adr mi (pc + 3) ls (v :: r) M) : Sm p l e R s m args below meth c Q D tA adr mi pc ls (.inr a :: r) M := by
  intro H locs lsC g hl
  obtain ⟨hx, hb, hml, hown, hts, hK, hC, hR, hfr, hlo, ho⟩ := F
  obtain ⟨f1, f2, f3, -, -⟩ := fld_el ho hf
  obtain ⟨c1, c2⟩ := cls_el f1
  obtain ⟨fs, e1, e2⟩ := am_fld_el hv
  have he := ws_obj (tA := tA) (adr := adr) (M := M) e1
  refine va_get (ref := (Tc ci sl).1) hx hb hts c2 hown hK g.1 a he c1 sl f2 (hts _ f3) (fun _ h => h) (v := cvA adr v) ?_ hd (hk H locs lsC g hl)
  rcases e2 with ⟨e2, rfl⟩ | ⟨r, e2, rfl⟩
  · simp [celF, List.getElem?_mapIdx, e2, celV, cvA]
  · simp [celF, List.getElem?_mapIdx, e2, celV, cvA]
theorem s_putfield {x ci sl : Nat} {a : Nat} {v y : Int} {ls : AL} {r : List AV} {M : Mm} {pc ty : Nat} (F : FxA p R s m args c D tA adr adV mi) (hd : decode (cM mi) pc = .ok (.putfield x, 3)) (hf : fldT (oM mi) x = some (ci, sl, ty)) (ht : ty ≤ 1) (hb01 : ty = 1 → v = 0 ∨ v = 1) (hv : am_fld (lay a) ci sl (M a sl) = some (.inl y))
    (hk : Sm p l e R s m args below meth c Q D tA adr mi (pc + 3) ls r (mset M a sl v)) : Sm p l e R s m args below meth c Q D tA adr mi pc ls (.inl v :: .inr a :: r) M := by
  intro H locs lsC g hl
  obtain ⟨hx, hb, hml, hown, hts, hK, hC, hR, hfr, hlo, ho⟩ := F
  obtain ⟨f1, f2, f3, f4, f5⟩ := fld_el ho hf
  obtain ⟨c1, c2⟩ := cls_el f1
  obtain ⟨fs, e1, e2⟩ := am_fld_el hv
  obtain ⟨tyf, t1, t2⟩ := tyc_el f1
  have he := ws_obj (tA := tA) (adr := adr) (M := M) e1
  have e3 : fs[sl]? = some none := by
    rcases e2 with ⟨e2, -⟩ | ⟨r, -, e2⟩
    · exact e2
    · cases e2
  have hlen : sl < (celF adr M a fs).length := by
    simp only [celF, List.length_mapIdx]
    exact (List.getElem?_eq_some_iff.mp e3).1
  have hset : (wsA tA adr M).set a (adr a, .inr (ci, (celF adr M a fs).set sl (.int (iN v)))) = wsA tA adr (mset M a sl v) := by
    refine wsA_set ?_ (fun b hb j => mset_ne b hb j)
    rw [celF_set e3]
    simp only [cel, e1]
  have hz : ∃ ty : FieldType, parseFieldDescriptor (Tc ci sl).2.2.1 = some ty ∧ narrow ty (.int (iN v)) = .int (iN v) ∧ fits ty (.int (iN v)) = true ∧ (Tc ci sl).2.2.2 = false := by
    rcases Nat.lt_or_ge ty 1 with q | q
    · obtain ⟨g1, g2⟩ := f4 (by show ty = 0; omega)
      exact ⟨.int, by rw [g1]; decide, vp_nar_int _, rfl, g2⟩
    · obtain ⟨g1, g2⟩ := f5 (by show ty = 1; omega)
      refine ⟨.boolean, by rw [g1]; decide, ?_, ?_, g2⟩
      · rcases hb01 (by omega) with rfl | rfl <;> rfl
      · rcases hb01 (by omega) with rfl | rfl <;> rfl
  obtain ⟨ty', z1, z2, z3, z4⟩ := hz
  refine va_put (ref := (Tc ci sl).1) (v := .int (iN v)) hx hb hts c2 tyf t1 t2 hown hK g.1 g.2.1 g.2.2 a he c1 sl f2 (hts _ f3) (fun _ h => h) z4 z1 z2 z3 hlen hd (fun H1 locs1 hP hD hS => ?_)
  rw [hset] at hP hD
  exact hk H1 locs1 lsC ⟨hP, hD, hS⟩ hl
theorem s_arr {a t n : Nat} {M : Mm} {i v : Int} (h : lay a = .inl (t, n)) (ht : t ≤ 1) (h0 : 0 ≤ i) (hi : i < n) : (wsA tA adr M).set a (adr a, .inl (tA t, (n, .inl (upd (fun j => iN (M a j)) (iN i).toNatClampNeg (iN v))))) = wsA tA adr (mset M a i.toNat v) := by
  have hn : n < 100000 := by
    have hq := lay_ok (lay_lt (a := a) (by rw [h]; intro n q; cases q; omega))
    simp only [okL, h, Bool.and_eq_true, decide_eq_true_eq] at hq
    exact hq.2
  refine wsA_set ?_ (fun b hb j => mset_ne b hb j)
  simp only [cel, h]
  congr 3
  rw [iN_clamp h0 (by omega)]
  congr 1
  funext j
  by_cases hj : j = i.toNat
  · simp [upd, mset, hj]
  · simp [upd, mset, hj]
theorem arr_small {a t n : Nat} (h : lay a = .inl (t, n)) (ht : t ≤ 1) : n < 100000 := by
  have hq := lay_ok (lay_lt (a := a) (by rw [h]; intro n q; cases q; omega))
  simp only [okL, h, Bool.and_eq_true, decide_eq_true_eq] at hq
  exact hq.2
theorem ref_small {a t : Nat} {rs : List Nat} (h : lay a = .inr (.inr (t, rs))) : (t = 2 ∨ t = 3) ∧ rs.length < 100000 := by
  have hq := lay_ok (lay_lt (a := a) (by rw [h]; intro n q; cases q))
  simp only [okL, h, Bool.and_eq_true, decide_eq_true_eq] at hq
  exact hq
theorem s_iaload {a n : Nat} {i : Int} {ls : AL} {r : List AV} {M : Mm} {pc : Nat} (F : FxA p R s m args c D tA adr adV mi) (hd : decode (cM mi) pc = .ok (.iaload, 1)) (h : lay a = .inl (0, n)) (h0 : 0 ≤ i) (hi : i < n)
    (hk : Sm p l e R s m args below meth c Q D tA adr mi (pc + 1) ls (.inl (M a i.toNat) :: r) M) : Sm p l e R s m args below meth c Q D tA adr mi pc ls (.inl i :: .inr a :: r) M := by
  intro H locs lsC g hl
  obtain ⟨hx, hb, hml, hown, hts, hK, hC, hR, hfr, hlo, ho⟩ := F
  have hs := arr_small h (by omega)
  have hk' := hk H locs lsC g hl
  refine va_iald hx hb hK g.1 a 0 (ws_arr h (by omega)) rfl (iN_in h0 hi (by omega)) hd ?_
  rw [iN_clamp h0 (by omega)]
  exact hk'
theorem s_baload {a n : Nat} {i : Int} {ls : AL} {r : List AV} {M : Mm} {pc : Nat} (F : FxA p R s m args c D tA adr adV mi) (hd : decode (cM mi) pc = .ok (.baload, 1)) (h : lay a = .inl (1, n)) (h0 : 0 ≤ i) (hi : i < n)
    (hk : Sm p l e R s m args below meth c Q D tA adr mi (pc + 1) ls (.inl (M a i.toNat) :: r) M) : Sm p l e R s m args below meth c Q D tA adr mi pc ls (.inl i :: .inr a :: r) M := by
  intro H locs lsC g hl
  obtain ⟨hx, hb, hml, hown, hts, hK, hC, hR, hfr, hlo, ho⟩ := F
  have hs := arr_small h (by omega)
  have hk' := hk H locs lsC g hl
  refine va_zald hx hb hK g.1 a 1 (ws_arr h (by omega)) rfl (iN_in h0 hi (by omega)) hd ?_
  rw [iN_clamp h0 (by omega)]
  exact hk'
theorem s_aaload {a t : Nat} {rs : List Nat} {i : Int} {ls : AL} {r : List AV} {M : Mm} {pc : Nat} (F : FxA p R s m args c D tA adr adV mi) (hd : decode (cM mi) pc = .ok (.aaload, 1)) (h : lay a = .inr (.inr (t, rs))) (h0 : 0 ≤ i) (hi : i < rs.length)
    (hk : Sm p l e R s m args below meth c Q D tA adr mi (pc + 1) ls (.inr (rs.getD i.toNat 0) :: r) M) : Sm p l e R s m args below meth c Q D tA adr mi pc ls (.inl i :: .inr a :: r) M := by
  intro H locs lsC g hl
  obtain ⟨hx, hb, hml, hown, hts, hK, hC, hR, hfr, hlo, ho⟩ := F
  obtain ⟨ht, hs⟩ := ref_small h
  have hk' := hk H locs lsC g hl
  have hlt : i.toNat < rs.length := by omega
  have hv : va_rf ((fun j => (rs[j]?).map adr) (iN i).toNatClampNeg) = .ref (adr (rs.getD i.toNat 0)) := by
    rw [iN_clamp h0 (by omega)]
    simp [List.getElem?_eq_getElem hlt, va_rf, List.getD_eq_getElem?_getD]
  rcases ht with rfl | rfl
  · refine va_aldq hx hb hK g.1 a 2 (ws_ref h) rfl (iN_in h0 hi (by omega)) hd ?_
    rw [hv]
    exact hk'
  · refine va_aldq hx hb hK g.1 a 3 (ws_ref h) rfl (iN_in h0 hi (by omega)) hd ?_
    rw [hv]
    exact hk'
theorem s_iastore {a n : Nat} {i v : Int} {ls : AL} {r : List AV} {M : Mm} {pc : Nat} (F : FxA p R s m args c D tA adr adV mi) (hd : decode (cM mi) pc = .ok (.iastore, 1)) (h : lay a = .inl (0, n)) (h0 : 0 ≤ i) (hi : i < n)
    (hk : Sm p l e R s m args below meth c Q D tA adr mi (pc + 1) ls r (mset M a i.toNat v)) : Sm p l e R s m args below meth c Q D tA adr mi pc ls (.inl v :: .inl i :: .inr a :: r) M := by
  intro H locs lsC g hl
  obtain ⟨hx, hb, hml, hown, hts, hK, hC, hR, hfr, hlo, ho⟩ := F
  have hs := arr_small h (by omega)
  refine va_iast hx hb hK g.1 g.2.1 g.2.2 a 0 (ws_arr h (by omega)) rfl (iN_in h0 hi (by omega)) hd (fun H1 locs1 hP hD hS => ?_)
  rw [s_arr h (by omega) h0 hi] at hP hD
  exact hk H1 locs1 lsC ⟨hP, hD, hS⟩ hl
theorem s_bastore {a n : Nat} {i v : Int} {ls : AL} {r : List AV} {M : Mm} {pc : Nat} (F : FxA p R s m args c D tA adr adV mi) (hd : decode (cM mi) pc = .ok (.bastore, 1)) (h : lay a = .inl (1, n)) (h0 : 0 ≤ i) (hi : i < n) (hv : v = 0 ∨ v = 1)
    (hk : Sm p l e R s m args below meth c Q D tA adr mi (pc + 1) ls r (mset M a i.toNat v)) : Sm p l e R s m args below meth c Q D tA adr mi pc ls (.inl v :: .inl i :: .inr a :: r) M := by
  intro H locs lsC g hl
  obtain ⟨hx, hb, hml, hown, hts, hK, hC, hR, hfr, hlo, ho⟩ := F
  have hs := arr_small h (by omega)
  have hn : vp_nar .boolean (iN v) = iN v := by rcases hv with rfl | rfl <;> rfl
  refine va_zast hx hb hK g.1 g.2.1 g.2.2 a 1 (ws_arr h (by omega)) rfl (iN_in h0 hi (by omega)) hd (fun H1 locs1 hP hD hS => ?_)
  rw [hn, s_arr h (by omega) h0 hi] at hP hD
  exact hk H1 locs1 lsC ⟨hP, hD, hS⟩ hl
theorem s_alen {a z : Nat} {ls : AL} {r : List AV} {M : Mm} {pc : Nat} (F : FxA p R s m args c D tA adr adV mi) (hd : decode (cM mi) pc = .ok (.arraylength, 1)) (h : am_len (lay a) = some z)
    (hk : Sm p l e R s m args below meth c Q D tA adr mi (pc + 1) ls (.inl z :: r) M) : Sm p l e R s m args below meth c Q D tA adr mi pc ls (.inr a :: r) M := by
  intro H locs lsC g hl
  obtain ⟨hx, hb, hml, hown, hts, hK, hC, hR, hfr, hlo, ho⟩ := F
  have hk' := hk H locs lsC g hl
  have he : ∀ z : Nat, Int32.ofNat z = iN (z : Int) := fun z => by
    simp [iN, Int32.ofInt_eq_ofNat]
  unfold am_len at h
  split at h
  · rename_i n q
    cases h
    exact va_alen hx hb hK g.1 a 0 (ws_arr q (by omega)) rfl (he _) hd hk'
  · rename_i n q
    cases h
    exact va_alen hx hb hK g.1 a 1 (ws_arr q (by omega)) rfl (he _) hd hk'
  · rename_i t rs q
    cases h
    obtain ⟨ht, hs⟩ := ref_small q
    rcases ht with rfl | rfl
    · exact va_alen hx hb hK g.1 a 2 (ws_ref q) rfl (he _) hd hk'
    · exact va_alen hx hb hK g.1 a 3 (ws_ref q) rfl (he _) hd hk'
  · cases h
theorem inR_i {x : Int} (h : inR x) : iN x = 0 ↔ x = 0 := by
  rw [show (0 : Int32) = iN 0 from rfl, iN_eq h inR_0]
theorem inR_lt {x : Int} (h : inR x) : iN x < 0 ↔ x < 0 := by
  rw [show (0 : Int32) = iN 0 from rfl, iN_lt h inR_0]
theorem inR_ge {x : Int} (h : inR x) : 0 ≤ iN x ↔ 0 ≤ x := by
  rw [show (0 : Int32) = iN 0 from rfl, iN_le inR_0 h]
theorem inR_gt {x : Int} (h : inR x) : 0 < iN x ↔ 0 < x := by
  rw [show (0 : Int32) = iN 0 from rfl, iN_lt inR_0 h]
theorem inR_le {x : Int} (h : inR x) : iN x ≤ 0 ↔ x ≤ 0 := by
  rw [show (0 : Int32) = iN 0 from rfl, iN_le h inR_0]
theorem s_ifz {q : Jvm.ClassFile.Cond} {f : Int} {x : Int} {ls : AL} {r : List AV} {M : Mm} {pc : Nat} (F : FxA p R s m args c D tA adr adV mi) (hd : decode (cM mi) pc = .ok (.ifCond q f, 3)) (ht : am_okt pc f) (h : inR x)
    (k1 : cz q x → Sm p l e R s m args below meth c Q D tA adr mi (am_tgt pc f) ls r M) (k2 : ¬ cz q x → Sm p l e R s m args below meth c Q D tA adr mi (pc + 3) ls r M) : Sm p l e R s m args below meth c Q D tA adr mi pc ls (.inl x :: r) M := by
  intro H locs lsC g hl
  obtain ⟨hx, hb, -⟩ := F
  cases q with
  | eq => exact lv_if_eq hx hb hd ht (fun z => k1 ((inR_i h).mp z) H locs lsC g hl) (fun z => k2 (fun y => z ((inR_i h).mpr y)) H locs lsC g hl)
  | ne => exact lv_if_ne hx hb hd ht (fun z => k1 (fun y => z ((inR_i h).mpr y)) H locs lsC g hl) (fun z => k2 (fun y => y ((inR_i h).mp z)) H locs lsC g hl)
  | lt => exact lv_if_lt hx hb hd ht (fun z => k1 ((inR_lt h).mp z) H locs lsC g hl) (fun z => k2 (fun y => z ((inR_lt h).mpr y)) H locs lsC g hl)
  | ge => exact lv_if_ge hx hb hd ht (fun z => k1 ((inR_ge h).mp z) H locs lsC g hl) (fun z => k2 (fun y => z ((inR_ge h).mpr y)) H locs lsC g hl)
  | gt => exact lv_if_gt hx hb hd ht (fun z => k1 ((inR_gt h).mp z) H locs lsC g hl) (fun z => k2 (fun y => z ((inR_gt h).mpr y)) H locs lsC g hl)
  | le => exact lv_if_le hx hb hd ht (fun z => k1 ((inR_le h).mp z) H locs lsC g hl) (fun z => k2 (fun y => z ((inR_le h).mpr y)) H locs lsC g hl)
theorem s_icmp {q : Jvm.ClassFile.Cond} {f : Int} {x y : Int} {ls : AL} {r : List AV} {M : Mm} {pc : Nat} (F : FxA p R s m args c D tA adr adV mi) (hd : decode (cM mi) pc = .ok (.if_icmp q f, 3)) (ht : am_okt pc f) (h : inR x) (h2 : inR y)
    (k1 : cc2 q x y → Sm p l e R s m args below meth c Q D tA adr mi (am_tgt pc f) ls r M) (k2 : ¬ cc2 q x y → Sm p l e R s m args below meth c Q D tA adr mi (pc + 3) ls r M) : Sm p l e R s m args below meth c Q D tA adr mi pc ls (.inl y :: .inl x :: r) M := by
  intro H locs lsC g hl
  obtain ⟨hx, hb, -⟩ := F
  cases q with
  | eq => exact lv_icmp_eq hx hb hd ht (fun z => k1 ((iN_eq h h2).mp z) H locs lsC g hl) (fun z => k2 (fun y => z ((iN_eq h h2).mpr y)) H locs lsC g hl)
  | ne => exact lv_icmp_ne hx hb hd ht (fun z => k1 (fun y => z ((iN_eq h h2).mpr y)) H locs lsC g hl) (fun z => k2 (fun y => y ((iN_eq h h2).mp z)) H locs lsC g hl)
  | lt => exact lv_icmp_lt hx hb hd ht (fun z => k1 ((iN_lt h h2).mp z) H locs lsC g hl) (fun z => k2 (fun y => z ((iN_lt h h2).mpr y)) H locs lsC g hl)
  | ge => exact lv_icmp_ge hx hb hd ht (fun z => k1 ((iN_le h2 h).mp z) H locs lsC g hl) (fun z => k2 (fun y => z ((iN_le h2 h).mpr y)) H locs lsC g hl)
  | gt => exact lv_icmp_gt hx hb hd ht (fun z => k1 ((iN_lt h2 h).mp z) H locs lsC g hl) (fun z => k2 (fun y => z ((iN_lt h2 h).mpr y)) H locs lsC g hl)
  | le => exact lv_icmp_le hx hb hd ht (fun z => k1 ((iN_le h h2).mp z) H locs lsC g hl) (fun z => k2 (fun y => z ((iN_le h h2).mpr y)) H locs lsC g hl)
end STP
