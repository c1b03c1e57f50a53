/-! FIELDS AND LENGTHS of the cells that there is one of (printed by wip/whole/gen13.py). -/
set_option maxRecDepth 100000 in
theorem FM : kc (lay 154) 12 = True ∧
  (∀ v, am_fld (lay 154) 12 0 v = some (.inr 155)) ∧
  (∀ v, am_fld (lay 154) 12 1 v = some (.inl v)) ∧
  (∀ v, am_fld (lay 154) 12 2 v = some (.inr 156)) ∧
  (∀ v, am_fld (lay 154) 12 3 v = some (.inr 157)) ∧
  (∀ v, am_fld (lay 154) 12 4 v = some (.inr 158)) ∧
  (∀ v, am_fld (lay 154) 12 5 v = some (.inr 159)) ∧
  (∀ v, am_fld (lay 154) 12 6 v = some (.inr 160)) ∧
  (∀ v, am_fld (lay 154) 12 7 v = some (.inr 161)) ∧
  (∀ v, am_fld (lay 154) 12 8 v = some (.inl v)) ∧
  (∀ v, am_fld (lay 154) 12 9 v = some (.inl v)) ∧
  (∀ v, am_fld (lay 154) 12 10 v = some (.inl v)) ∧
  (∀ v, am_fld (lay 154) 12 11 v = some (.inl v)) ∧
  (∀ v, am_fld (lay 154) 12 12 v = some (.inl v)) ∧
  (∀ v, am_fld (lay 154) 12 13 v = some (.inl v)) ∧
  (∀ v, am_fld (lay 154) 12 14 v = some (.inl v)) ∧
  (∀ v, am_fld (lay 154) 12 15 v = some (.inl v)) ∧
  (∀ v, am_fld (lay 154) 12 16 v = some (.inl v)) ∧
  (∀ v, am_fld (lay 154) 12 17 v = some (.inl v)) ∧
  (∀ v, am_fld (lay 154) 12 18 v = some (.inl v)) ∧
  (∀ v, am_fld (lay 154) 12 19 v = some (.inl v)) ∧
  (∀ v, am_fld (lay 154) 12 20 v = some (.inr 162)) ∧
  (∀ v, am_fld (lay 154) 12 21 v = some (.inr 163)) ∧
  (∀ v, am_fld (lay 154) 12 22 v = some (.inr 164)) ∧
  (∀ v, am_fld (lay 154) 12 23 v = some (.inr 165)) ∧
  (∀ v, am_fld (lay 154) 12 24 v = some (.inr 166)) ∧
  (∀ v, am_fld (lay 154) 12 25 v = some (.inr 167)) ∧
  (∀ v, am_fld (lay 154) 12 26 v = some (.inl v)) ∧
  (∀ v, am_fld (lay 154) 12 27 v = some (.inl v)) ∧
  (∀ v, am_fld (lay 154) 12 28 v = some (.inl v)) ∧
  (∀ v, am_fld (lay 154) 12 29 v = some (.inl v)) ∧
  (∀ v, am_fld (lay 154) 12 30 v = some (.inl v)) ∧
  (∀ v, am_fld (lay 154) 12 31 v = some (.inr 168)) ∧
  (∀ v, am_fld (lay 154) 12 32 v = some (.inl v)) ∧
  (∀ v, am_fld (lay 154) 12 33 v = some (.inl v)) ∧
  (∀ v, am_fld (lay 154) 12 34 v = some (.inl v)) ∧
  (∀ v, am_fld (lay 154) 12 35 v = some (.inl v)) ∧
  (∀ v, am_fld (lay 154) 12 36 v = some (.inl v)) ∧
  (∀ v, am_fld (lay 154) 12 37 v = some (.inl v)) ∧
  (∀ v, am_fld (lay 154) 12 38 v = some (.inl v)) ∧
  (∀ v, am_fld (lay 154) 12 39 v = some (.inl v)) ∧
  (∀ v, am_fld (lay 154) 12 40 v = some (.inl v)) ∧
  (∀ v, am_fld (lay 154) 12 41 v = some (.inl v)) ∧
  (∀ v, am_fld (lay 154) 12 42 v = some (.inr 169)) ∧
  (∀ v, am_fld (lay 154) 12 43 v = some (.inr 170)) ∧
  (∀ v, am_fld (lay 154) 12 44 v = some (.inr 171)) ∧
  (∀ v, am_fld (lay 154) 12 45 v = some (.inr 172)) ∧
  (∀ v, am_fld (lay 154) 12 46 v = some (.inr 173)) ∧
  (∀ v, am_fld (lay 154) 12 47 v = some (.inr 174)) ∧
  (∀ v, am_fld (lay 154) 12 48 v = some (.inr 175)) ∧
  (∀ v, am_fld (lay 154) 12 49 v = some (.inl v)) ∧
  (∀ v, am_fld (lay 154) 12 50 v = some (.inr 176)) ∧
  (∀ v, am_fld (lay 154) 12 51 v = some (.inr 177)) ∧
  (∀ v, am_fld (lay 154) 12 52 v = some (.inr 178)) ∧
  (∀ v, am_fld (lay 154) 12 53 v = some (.inr 179)) ∧
  (∀ v, am_fld (lay 154) 12 54 v = some (.inr 180)) ∧
  (∀ v, am_fld (lay 154) 12 55 v = some (.inl v)) ∧
  (∀ v, am_fld (lay 154) 12 56 v = some (.inl v)) ∧
  (∀ v, am_fld (lay 154) 12 57 v = some (.inl v)) ∧
  (∀ v, am_fld (lay 154) 12 58 v = some (.inl v)) ∧
  (∀ v, am_fld (lay 154) 12 59 v = some (.inr 181)) ∧
  (∀ v, am_fld (lay 154) 12 60 v = some (.inl v)) ∧
  (∀ v, am_fld (lay 154) 12 61 v = some (.inr 182)) ∧
  (∀ v, am_fld (lay 154) 12 62 v = some (.inr 183)) ∧
  (∀ v, am_fld (lay 154) 12 63 v = some (.inl v)) ∧
  (∀ v, am_fld (lay 154) 12 64 v = some (.inl v)) ∧
  (∀ v, am_fld (lay 154) 12 65 v = some (.inr 184)) ∧
  (∀ v, am_fld (lay 154) 12 66 v = some (.inl v)) ∧
  (∀ v, am_fld (lay 154) 12 67 v = some (.inr 185)) ∧
  (∀ v, am_fld (lay 154) 12 68 v = some (.inl v)) ∧
  (∀ v, am_fld (lay 154) 12 69 v = some (.inl v)) ∧
  (∀ v, am_fld (lay 154) 12 70 v = some (.inl v)) ∧
  (∀ v, am_fld (lay 154) 12 71 v = some (.inl v)) ∧
  (∀ v, am_fld (lay 154) 12 72 v = some (.inr 186)) ∧
  (∀ v, am_fld (lay 154) 12 73 v = some (.inr 187)) ∧
  (∀ v, am_fld (lay 154) 12 74 v = some (.inr 188)) ∧
  (∀ v, am_fld (lay 154) 12 75 v = some (.inr 189)) ∧
  (∀ v, am_fld (lay 154) 12 76 v = some (.inr 190)) ∧
  lay 155 = .inr (.inr (3, [191, 192, 193, 194, 195, 196])) ∧
  lay 156 = .inl (0, 4) ∧
  lay 157 = .inl (0, 4) ∧
  lay 158 = .inl (0, 240) ∧
  lay 159 = .inl (0, 240) ∧
  lay 160 = .inl (0, 3) ∧
  lay 161 = .inl (0, 900) ∧
  lay 162 = .inl (0, 1000) ∧
  lay 163 = .inl (0, 1000) ∧
  lay 164 = .inl (0, 1000) ∧
  lay 165 = .inl (0, 25) ∧
  lay 166 = .inl (0, 25) ∧
  lay 167 = .inl (0, 25) ∧
  lay 168 = .inl (0, 8) ∧
  lay 169 = .inl (0, 28) ∧
  lay 170 = .inl (0, 28) ∧
  lay 171 = .inl (0, 28) ∧
  lay 172 = .inl (0, 28) ∧
  lay 173 = .inl (0, 8) ∧
  lay 174 = .inl (0, 8) ∧
  lay 175 = .inl (1, 28) ∧
  lay 176 = .inl (0, 8) ∧
  lay 177 = .inl (0, 8) ∧
  lay 178 = .inl (0, 8) ∧
  lay 179 = .inl (0, 8) ∧
  lay 180 = .inl (0, 240) ∧
  lay 181 = .inl (0, 9600) ∧
  lay 182 = .inl (0, 8) ∧
  lay 183 = .inl (0, 8) ∧
  lay 184 = .inl (0, 408) ∧
  lay 185 = .inl (0, 200) ∧
  lay 186 = .inl (0, 240) ∧
  lay 187 = .inl (0, 9600) ∧
  lay 188 = .inl (0, 8) ∧
  lay 189 = .inl (0, 8) ∧
  lay 190 = .inl (0, 3) :=
  ⟨eq_true (Eq.refl (12 : Nat)), (fun _ => rfl), (fun _ => rfl), (fun _ => rfl), (fun _ => rfl), (fun _ => rfl), (fun _ => rfl), (fun _ => rfl), (fun _ => rfl), (fun _ => rfl), (fun _ => rfl), (fun _ => rfl), (fun _ => rfl), (fun _ => rfl), (fun _ => rfl), (fun _ => rfl), (fun _ => rfl), (fun _ => rfl), (fun _ => rfl), (fun _ => rfl), (fun _ => rfl), (fun _ => rfl), (fun _ => rfl), (fun _ => rfl), (fun _ => rfl), (fun _ => rfl), (fun _ => rfl), (fun _ => rfl), (fun _ => rfl), (fun _ => rfl), (fun _ => rfl), (fun _ => rfl), (fun _ => rfl), (fun _ => rfl), (fun _ => rfl), (fun _ => rfl), (fun _ => rfl), (fun _ => rfl), (fun _ => rfl), (fun _ => rfl), (fun _ => rfl), (fun _ => rfl), (fun _ => rfl), (fun _ => rfl), (fun _ => rfl), (fun _ => rfl), (fun _ => rfl), (fun _ => rfl), (fun _ => rfl), (fun _ => rfl), (fun _ => rfl), (fun _ => rfl), (fun _ => rfl), (fun _ => rfl), (fun _ => rfl), (fun _ => rfl), (fun _ => rfl), (fun _ => rfl), (fun _ => rfl), (fun _ => rfl), (fun _ => rfl), (fun _ => rfl), (fun _ => rfl), (fun _ => rfl), (fun _ => rfl), (fun _ => rfl), (fun _ => rfl), (fun _ => rfl), (fun _ => rfl), (fun _ => rfl), (fun _ => rfl), (fun _ => rfl), (fun _ => rfl), (fun _ => rfl), (fun _ => rfl), (fun _ => rfl), (fun _ => rfl), (fun _ => rfl), rfl, rfl, rfl, rfl, rfl, rfl, rfl, rfl, rfl, rfl, rfl, rfl, rfl, rfl, rfl, rfl, rfl, rfl, rfl, rfl, rfl, rfl, rfl, rfl, rfl, rfl, rfl, rfl, rfl, rfl, rfl, rfl, rfl, rfl, rfl, rfl⟩

set_option maxRecDepth 100000 in
theorem FR : kc (lay 0) 11 = True ∧
  (∀ v, am_fld (lay 0) 11 0 v = some (.inr 1)) ∧
  (∀ v, am_fld (lay 0) 11 1 v = some (.inr 33)) ∧
  (∀ v, am_fld (lay 0) 11 2 v = some (.inr 60)) ∧
  (∀ v, am_fld (lay 0) 11 3 v = some (.inr 68)) ∧
  (∀ v, am_fld (lay 0) 11 4 v = some (.inr 73)) ∧
  (∀ v, am_fld (lay 0) 11 5 v = some (.inr 198)) ∧
  (∀ v, am_fld (lay 0) 11 6 v = some (.inr 76)) ∧
  (∀ v, am_fld (lay 0) 11 7 v = some (.inr 106)) ∧
  (∀ v, am_fld (lay 0) 11 8 v = some (.inr 111)) ∧
  (∀ v, am_fld (lay 0) 11 9 v = some (.inr 114)) ∧
  (∀ v, am_fld (lay 0) 11 10 v = some (.inr 115)) ∧
  (∀ v, am_fld (lay 0) 11 11 v = some (.inr 145)) ∧
  (∀ v, am_fld (lay 0) 11 12 v = some (.inr 150)) ∧
  (∀ v, am_fld (lay 0) 11 13 v = some (.inr 153)) ∧
  (∀ v, am_fld (lay 0) 11 14 v = some (.inl v)) ∧
  lay 114 = .inl (0, 3) ∧
  lay 153 = .inl (0, 3) :=
  ⟨eq_true (Eq.refl (11 : Nat)), (fun _ => rfl), (fun _ => rfl), (fun _ => rfl), (fun _ => rfl), (fun _ => rfl), (fun _ => rfl), (fun _ => rfl), (fun _ => rfl), (fun _ => rfl), (fun _ => rfl), (fun _ => rfl), (fun _ => rfl), (fun _ => rfl), (fun _ => rfl), (fun _ => rfl), rfl, rfl⟩

set_option maxRecDepth 100000 in
theorem FD : kc (lay 1) 5 = True ∧
  (∀ v, am_fld (lay 1) 5 0 v = some (.inr 2)) ∧
  (∀ v, am_fld (lay 1) 5 1 v = some (.inr 3)) ∧
  (∀ v, am_fld (lay 1) 5 2 v = some (.inl v)) ∧
  (∀ v, am_fld (lay 1) 5 3 v = some (.inl v)) ∧
  (∀ v, am_fld (lay 1) 5 4 v = some (.inl v)) ∧
  (∀ v, am_fld (lay 1) 5 5 v = some (.inl v)) ∧
  (∀ v, am_fld (lay 1) 5 6 v = some (.inl v)) ∧
  (∀ v, am_fld (lay 1) 5 7 v = some (.inl v)) ∧
  (∀ v, am_fld (lay 1) 5 8 v = some (.inl v)) ∧
  (∀ v, am_fld (lay 1) 5 9 v = some (.inl v)) ∧
  (∀ v, am_fld (lay 1) 5 10 v = some (.inl v)) ∧
  (∀ v, am_fld (lay 1) 5 11 v = some (.inl v)) ∧
  lay 2 = .inl (0, 900) :=
  ⟨eq_true (Eq.refl (5 : Nat)), (fun _ => rfl), (fun _ => rfl), (fun _ => rfl), (fun _ => rfl), (fun _ => rfl), (fun _ => rfl), (fun _ => rfl), (fun _ => rfl), (fun _ => rfl), (fun _ => rfl), (fun _ => rfl), (fun _ => rfl), rfl⟩

set_option maxRecDepth 100000 in
theorem FB : kc (lay 33) 0 = True ∧
  (∀ v, am_fld (lay 33) 0 0 v = some (.inr 34)) ∧
  (∀ v, am_fld (lay 33) 0 1 v = some (.inr 41)) ∧
  (∀ v, am_fld (lay 33) 0 2 v = some (.inr 48)) ∧
  (∀ v, am_fld (lay 33) 0 3 v = some (.inr 55)) ∧
  (∀ v, am_fld (lay 33) 0 4 v = some (.inr 56)) ∧
  (∀ v, am_fld (lay 33) 0 5 v = some (.inr 57)) ∧
  (∀ v, am_fld (lay 33) 0 6 v = some (.inr 58)) ∧
  (∀ v, am_fld (lay 33) 0 7 v = some (.inl v)) ∧
  (∀ v, am_fld (lay 33) 0 8 v = some (.inl v)) ∧
  lay 55 = .inl (0, 924) ∧
  lay 56 = .inl (0, 924) ∧
  kc (lay 58) 1 = True ∧
  (∀ v, am_fld (lay 58) 1 0 v = some (.inr 59)) ∧
  (∀ v, am_fld (lay 58) 1 1 v = some (.inl v)) ∧
  (∀ v, am_fld (lay 58) 1 2 v = some (.inl v)) ∧
  (∀ v, am_fld (lay 58) 1 3 v = some (.inl v)) ∧
  (∀ v, am_fld (lay 58) 1 4 v = some (.inl v)) ∧
  (∀ v, am_fld (lay 58) 1 5 v = some (.inl v)) :=
  ⟨eq_true (Eq.refl (0 : Nat)), (fun _ => rfl), (fun _ => rfl), (fun _ => rfl), (fun _ => rfl), (fun _ => rfl), (fun _ => rfl), (fun _ => rfl), (fun _ => rfl), (fun _ => rfl), rfl, rfl, eq_true (Eq.refl (1 : Nat)), (fun _ => rfl), (fun _ => rfl), (fun _ => rfl), (fun _ => rfl), (fun _ => rfl), (fun _ => rfl)⟩

set_option maxRecDepth 100000 in
theorem FW : kc (lay 60) 10 = True ∧
  (∀ v, am_fld (lay 60) 10 0 v = some (.inr 61)) ∧
  (∀ v, am_fld (lay 60) 10 1 v = some (.inr 62)) ∧
  (∀ v, am_fld (lay 60) 10 2 v = some (.inr 63)) ∧
  (∀ v, am_fld (lay 60) 10 3 v = some (.inr 64)) ∧
  (∀ v, am_fld (lay 60) 10 4 v = some (.inr 65)) ∧
  (∀ v, am_fld (lay 60) 10 5 v = some (.inr 66)) ∧
  (∀ v, am_fld (lay 60) 10 6 v = some (.inr 67)) ∧
  (∀ v, am_fld (lay 60) 10 7 v = some (.inl v)) ∧
  lay 61 = .inl (0, 28) ∧
  lay 62 = .inl (0, 28) ∧
  lay 63 = .inl (0, 28) ∧
  lay 64 = .inl (0, 28) ∧
  lay 65 = .inl (1, 28) ∧
  lay 66 = .inl (0, 8) ∧
  lay 67 = .inl (0, 8) :=
  ⟨eq_true (Eq.refl (10 : Nat)), (fun _ => rfl), (fun _ => rfl), (fun _ => rfl), (fun _ => rfl), (fun _ => rfl), (fun _ => rfl), (fun _ => rfl), (fun _ => rfl), rfl, rfl, rfl, rfl, rfl, rfl, rfl⟩

set_option maxRecDepth 100000 in
theorem FG : kc (lay 68) 2 = True ∧
  (∀ v, am_fld (lay 68) 2 0 v = some (.inr 69)) ∧
  (∀ v, am_fld (lay 68) 2 1 v = some (.inr 70)) ∧
  (∀ v, am_fld (lay 68) 2 2 v = some (.inr 71)) ∧
  (∀ v, am_fld (lay 68) 2 3 v = some (.inr 72)) ∧
  (∀ v, am_fld (lay 68) 2 4 v = some (.inl v)) ∧
  (∀ v, am_fld (lay 68) 2 5 v = some (.inl v)) ∧
  (∀ v, am_fld (lay 68) 2 6 v = some (.inl v)) ∧
  lay 69 = .inl (0, 8) ∧
  lay 70 = .inl (0, 8) ∧
  lay 71 = .inl (0, 8) ∧
  lay 72 = .inl (0, 8) :=
  ⟨eq_true (Eq.refl (2 : Nat)), (fun _ => rfl), (fun _ => rfl), (fun _ => rfl), (fun _ => rfl), (fun _ => rfl), (fun _ => rfl), (fun _ => rfl), rfl, rfl, rfl, rfl⟩
