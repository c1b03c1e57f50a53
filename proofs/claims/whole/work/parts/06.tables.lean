/-! THE TABLES ARE THE STATEMENT'S: every row of the printed tables against lw_tbl. -/
def okM (i : Nat) : Bool :=
  goodWord (Cond.code (yM i) (cM i) (lM i) (rM i)) && plainName (yM i).cls && decide ((yM i).cls = Rn (oM i)) &&
  decide ((yM i).cls ≠ "java/lang/invoke/MethodHandle") && decide ((yM i).cls ≠ "java/lang/invoke/VarHandle") && decide (lM i ≤ 30) &&
  (decide (rkM i = 0) && decide (rM i = none) || decide (rkM i = 1) && (decide (rM i = some .int) || decide (oM i = 15)) || decide (rkM i = 2) && decide (rM i = some .boolean) ||
    decide (rkM i = 3) && (match rM i with | some (.object _) => true | _ => false))
set_option maxRecDepth 100000 in
theorem tb_meth : (List.range mtN).all okM = true := by decide +kernel
def okI (o : Nat) (r : Nat × Nat × Nat × Nat × Nat × Nat × Nat) : Bool := match r with
  | (x, q, op, p1, p2, p3, p4) =>
    (decide (op ≤ 2) && decide (q < mtN) && decide (lw_tbl[p4]? = some (Cond.initialized (yM q).cls)) && goodWord (Cond.initialized (yM q).cls) || decide (3 ≤ op) && decide (lw_tbl[p4]? = some (Cond.initialized "java/lang/Math")) && goodWord (Cond.initialized "java/lang/Math")) &&
    (decide (op = 0) && decide (lw_tbl[p1]? = some (Cond.methodLink (Rn o) x (yM q))) && goodWord (Cond.methodLink (Rn o) x (yM q)) && decide (lw_tbl[p2]? = some (Cond.instanceMethod (yM q))) && goodWord (Cond.instanceMethod (yM q)) &&
        decide (lw_tbl[p3]? = some (Cond.selects (yM q).cls (yM q) (yM q))) && goodWord (Cond.selects (yM q).cls (yM q) (yM q)) && decide ((parseMethodDescriptor (yM q).desc).map (fun d => d.parameters.length + 1) = some (nM q)) ||
     decide (op = 1) && decide (lw_tbl[p1]? = some (Cond.methodLink (Rn o) x (yM q))) && goodWord (Cond.methodLink (Rn o) x (yM q)) && decide (lw_tbl[p2]? = some (Cond.static (yM q))) && goodWord (Cond.static (yM q)) && decide ((parseMethodDescriptor (yM q).desc).map (fun d => d.parameters.length) = some (nM q)) ||
     decide (op = 2) && decide (lw_tbl[p2]? = some (Cond.static (yM q))) && goodWord (Cond.static (yM q)) && decide ((parseMethodDescriptor (yM q).desc).map (fun d => d.parameters.length) = some (nM q)) ||
     decide (op = 3) && decide (lw_tbl[p1]? = some (Cond.methodLink (Rn o) x Lib.Math.max.name)) && decide (lw_tbl[p2]? = some (Cond.static Lib.Math.max.name)) && decide (p3 = mathP 0) ||
     decide (op = 4) && decide (lw_tbl[p1]? = some (Cond.methodLink (Rn o) x Lib.Math.min.name)) && decide (lw_tbl[p2]? = some (Cond.static Lib.Math.min.name)) && decide (p3 = mathP 1) ||
     decide (op = 5) && decide (lw_tbl[p1]? = some (Cond.methodLink (Rn o) x Lib.Math.abs.name)) && decide (lw_tbl[p2]? = some (Cond.static Lib.Math.abs.name)) && decide (p3 = mathP 2))
set_option maxRecDepth 100000 in
theorem tb_max : lw_tbl[mathP 0]? = some (Cond.code Lib.Math.max.name Lib.Math.max.code 2 (some .int)) := rfl
set_option maxRecDepth 100000 in
theorem tb_min : lw_tbl[mathP 1]? = some (Cond.code Lib.Math.min.name Lib.Math.min.code 2 (some .int)) := rfl
set_option maxRecDepth 100000 in
theorem tb_abs : lw_tbl[mathP 2]? = some (Cond.code Lib.Math.abs.name Lib.Math.abs.code 1 (some .int)) := rfl
set_option maxRecDepth 100000 in
theorem tb_inv0 : (invL 0).all (okI 0) = true := by decide +kernel
set_option maxRecDepth 100000 in
theorem tb_inv1 : (invL 1).all (okI 1) = true := by decide +kernel
set_option maxRecDepth 100000 in
theorem tb_inv2 : (invL 2).all (okI 2) = true := by decide +kernel
set_option maxRecDepth 100000 in
theorem tb_inv3 : (invL 3).all (okI 3) = true := by decide +kernel
set_option maxRecDepth 100000 in
theorem tb_inv4 : (invL 4).all (okI 4) = true := by decide +kernel
set_option maxRecDepth 100000 in
theorem tb_inv5 : (invL 5).all (okI 5) = true := by decide +kernel
set_option maxRecDepth 100000 in
theorem tb_inv6 : (invL 6).all (okI 6) = true := by decide +kernel
set_option maxRecDepth 100000 in
theorem tb_inv7 : (invL 7).all (okI 7) = true := by decide +kernel
set_option maxRecDepth 100000 in
theorem tb_inv8 : (invL 8).all (okI 8) = true := by decide +kernel
set_option maxRecDepth 100000 in
theorem tb_inv9 : (invL 9).all (okI 9) = true := by decide +kernel
set_option maxRecDepth 100000 in
theorem tb_inv10 : (invL 10).all (okI 10) = true := by decide +kernel
set_option maxRecDepth 100000 in
theorem tb_inv11 : (invL 11).all (okI 11) = true := by decide +kernel
set_option maxRecDepth 100000 in
theorem tb_inv12 : (invL 12).all (okI 12) = true := by decide +kernel
set_option maxRecDepth 100000 in
theorem tb_inv13 : (invL 13).all (okI 13) = true := by decide +kernel
theorem tb_inv : ∀ o, (invL o).all (okI o) = true := by
  intro o
  match o with
  | 0 => exact tb_inv0
  | 1 => exact tb_inv1
  | 2 => exact tb_inv2
  | 3 => exact tb_inv3
  | 4 => exact tb_inv4
  | 5 => exact tb_inv5
  | 6 => exact tb_inv6
  | 7 => exact tb_inv7
  | 8 => exact tb_inv8
  | 9 => exact tb_inv9
  | 10 => exact tb_inv10
  | 11 => exact tb_inv11
  | 12 => exact tb_inv12
  | 13 => exact tb_inv13
  | n + 14 => rfl
def Tc (ci : Nat) : u_T := match clA[ci]? with
  | some q => q.2.1
  | none => fun _ => ("", "", "", false)
def Nc (ci : Nat) : Nat := match clA[ci]? with
  | some q => q.2.2
  | none => 0
def okF (o : Nat) (r : Nat × Nat × Nat × Nat × Nat) : Bool := match r with
  | (x, ci, sl, ty, p1) => decide (ci < 13) && decide (sl < Nc ci) && decide (lw_tbl[p1]? = some (Cond.fieldLink (Rn o) x (Tc ci sl).1 (Tc ci sl).2.1 (Tc ci sl).2.2.1)) && goodWord (Cond.fieldLink (Rn o) x (Tc ci sl).1 (Tc ci sl).2.1 (Tc ci sl).2.2.1) &&
    (decide (ty = 0) && decide ((Tc ci sl).2.2.1 = "I") && decide ((Tc ci sl).2.2.2 = false) || decide (ty = 1) && decide ((Tc ci sl).2.2.1 = "Z") && decide ((Tc ci sl).2.2.2 = false) || decide (2 ≤ ty))
set_option maxRecDepth 100000 in
theorem tb_fld : (List.range 14).all (fun o => (fldL o).all (okF o)) = true := by decide +kernel
def okD (o : Nat) (r : Nat × Int × Nat) : Bool := decide (lw_tbl[r.2.2]? = some (Cond.constant (Rn o) r.1 (iN r.2.1))) && goodWord (Cond.constant (Rn o) r.1 (iN r.2.1))
set_option maxRecDepth 100000 in
theorem tb_ldi : (List.range 14).all (fun o => (ldiL o).all (okD o)) = true := by decide +kernel
/-- cells: arrays' lengths are small, objects' classes are the system's -/
def okL (a : Nat) : Bool := match lay a with
  | .inl (t, n) => decide (t ≤ 1) && decide (n < 100000)
  | .inr (.inl (ci, fs)) => decide (ci < 13) && decide (fs.length = Nc ci)
  | .inr (.inr (t, rs)) => decide (t = 2 ∨ t = 3) && decide (rs.length < 100000)
set_option maxRecDepth 100000 in
theorem tb_lay : (List.range NN).all okL = true := by decide +kernel
def okW (ci : Nat) : Bool := match clA[ci]? with
  | some q => (List.range q.2.2).all (fun k => decide (lw_tbl[(posW ci).getD k 0]? = some (u_lay q.1 q.2.1 k)) && goodWord (u_lay q.1 q.2.1 k)) && decide (q.1 = Rn ci)
  | none => false
set_option maxRecDepth 100000 in
theorem tb_cls : (List.range 13).all okW = true := by decide +kernel
theorem gW_of {w : Cond} (h : w ∈ lw_tbl) (g : goodWord w = true) : w ∈ gW := List.mem_filter.mpr ⟨h, g⟩
theorem gW_at {w : Cond} {i : Nat} (h : lw_tbl[i]? = some w) (g : goodWord w = true) : w ∈ gW := gW_of (List.mem_of_getElem? h) g
