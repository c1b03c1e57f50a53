/-! THE RELATION of class and reference in one memory. -/
/-- what a row of 240 says of its timbers -/
def vT (f : Nat → Int) : Nat → Rw := fun t => mRw f t
def vY (f : Nat → Int) : Nat → Int := fun t => f (30 * t + 4)
def vH (f : Nat → Int) : Nat → Int := fun t => f (30 * t + 3)
/-- a stock of the class holds what a row says -/
def rowR (M : Mm) (s : Nat) (f : Nat → Int) (n : Nat) : Prop := ∀ t, t < n → tRw M (s + 6 + 3 * t) = vT f t ∧ M (s + 5) t = vY f t ∧ M (s + 6 + 3 * t) 3 = f (30 * t + 1) ∧ M (s + 6 + 3 * t) 4 = f (30 * t + 2) ∧ M (s + 6 + 3 * t) 5 = vH f t
def rowW (f : Nat → Int) (n : Nat) : Prop := ∀ t, t < n → okT (vT f t) ∧ (-1 ≤ vY f t ∧ vY f t ≤ 900) ∧ wfM f t
/-- a ring's doubt turned -/
def rwTog (A : Rw) (r : Int) : Rw := (A.1, A.2.1, fun j => if (j : Int) = r ∧ (j : Int) < A.2.1 then 1 - A.2.2 j else A.2.2 j)
/-- an act taken back: rows, years, houses -/
def unT (kd sb rg bf : Int) (T : Nat → Rw) (t : Nat) : Rw := if kd = 2 ∧ (t : Int) = sb then rwRem (T t) rg else if kd = 3 ∧ (t : Int) = sb then rwIns (T t) rg bf else if kd = 4 ∧ (t : Int) = sb then rwTog (T t) rg else T t
def unY (kd sb bf : Int) (Y : Nat → Int) (t : Nat) : Int := if kd = 0 ∧ (t : Int) = sb then bf else if kd = 1 ∧ btI sb t = true then -1 else Y t
def unH (kd sb bf : Int) (H : Nat → Int) (t : Nat) : Int := if kd = 5 ∧ (t : Int) = sb then bf else H t
def unOK (kd sb rg bf : Int) (n : Nat) (T : Nat → Rw) : Prop := (0 ≤ kd ∧ kd ≤ 5) ∧ inR sb ∧ inR rg ∧ (kd ≠ 1 → 0 ≤ sb ∧ sb < n) ∧ (kd = 2 → 0 ≤ rg ∧ rg < (T sb.toNat).2.1) ∧ (kd = 3 → (0 ≤ rg ∧ rg ≤ (T sb.toNat).2.1) ∧ (T sb.toNat).2.1 < 24) ∧ (kd = 4 → 0 ≤ rg ∧ rg < (T sb.toNat).2.1)
/-- g is f with the act taken back -/
def unR (kd sb rg bf : Int) (n : Nat) (f g : Nat → Int) : Prop := unOK kd sb rg bf n (vT f) ∧ ∀ t, t < n → vT g t = unT kd sb rg bf (vT f) t ∧ vY g t = unY kd sb bf (vY f) t ∧ vH g t = unH kd sb bf (vH f) t ∧ g (30 * t + 1) = f (30 * t + 1) ∧ g (30 * t + 2) = f (30 * t + 2)
/-- the row before act i, of a of them; the row now is f -/
def pAt (p f : Nat → Int) (a i : Nat) : Nat → Int := if i = a then f else fun j => p (240 * i + j)
/-- a ledger of the class at l is the past p of the row f -/
def ledR (M : Mm) (l : Nat) (n a : Nat) (p f : Nat → Int) : Prop := M l 4 = a ∧ a ≤ 40 ∧ rowW f n ∧ ∀ i, i < a → unR (M (l + 1) i) (M (l + 2) i) (M (l + 3) i) (M (l + 4) i) n (pAt p f a (i + 1)) (pAt p f a i) ∧ rowW (pAt p f a i) n
/-- an image, if there is one -/
def imgR (M : Mm) (k n : Nat) (lap bnd mrg : Int) : Prop := wfS M 115 ∧ (M 115 3 = n ∧ M 115 4 = bnd ∧ M 115 5 = lap ∧ M 115 6 = mrg) ∧ rowR M 115 (M 186) n ∧ (∃ a, M 154 70 = (a : Nat) ∧ ledR M 145 n a (M 187) (M 186)) ∧ (∃ m : Nat, M 150 2 = m ∧ M 154 71 = m ∧ m ≤ 8 ∧ ∀ i, i < m → (M 151 i = M 188 i ∧ M 152 i = M 189 i) ∧ (0 ≤ M 151 i ∧ M 151 i < n) ∧ (-1 ≤ M 152 i ∧ M 152 i ≤ 900)) ∧ ∀ j, j < 3 → M 153 j = M 190 j ∧ (0 ≤ M 153 j ∧ M 153 j ≤ k)
/-- is there an image? and what isn't in use is well formed -/
def relG (M : Mm) : Prop := (M 0 14 = 0 ∨ M 0 14 = 1) ∧ wfT M 117 ∧ wfT M 5 ∧ (∀ t, t < 8 → wfT M (9 + 3 * t)) ∧ ∀ t, t < 8 → -1 ≤ M 8 t ∧ M 8 t ≤ 900
theorem relG_mv {M M2 : Mm} (h : relG M) (e : ∀ b j, (b = 0 ∧ j = 14 ∨ 3 ≤ b ∧ b < 33 ∨ 117 ≤ b ∧ b < 120) → M2 b j = M b j) : relG M2 := by
  obtain ⟨h1, h2, h3, h4, h5⟩ := h
  refine ⟨by rw [e 0 14 (by omega)]; exact h1, wfT_cells (fun b p1 p2 j => e b j (by omega)) h2, wfT_cells (fun b p1 p2 j => e b j (by omega)) h3, fun t ht => wfT_cells (fun b p1 p2 j => e b j (by omega)) (h4 t ht), fun t ht => by rw [e 8 t (by omega)]; exact h5 t ht⟩
/-- all that isn't in cls and mdl; k calls so far -/
def relX (M : Mm) (k n : Nat) (lap bnd mrg : Int) : Prop := rowR M 76 (M 158) n ∧ (∃ m N Z, nts M n m N Z ∧ ntM M n m N Z) ∧ (∀ j, j < 3 → M 114 j = M 160 j ∧ (0 ≤ M 114 j ∧ M 114 j ≤ k)) ∧
  (∃ L : Nat, (M 1 2 = L ∧ M 154 8 = L ∧ L ≤ 900) ∧ (∀ j, j < L → M 2 j = M 161 j) ∧ ∀ j, 0 ≤ M 2 j ∧ M 2 j ≤ 255) ∧ (M 1 3 = M 154 17 ∧ -1 ≤ M 1 3 ∧ M 1 3 ≤ 900) ∧
  (∃ a, M 154 58 = (a : Nat) ∧ ledR M 106 n a (M 181) (M 158)) ∧ relG M ∧ M 154 69 = M 0 14 ∧ (M 0 14 = 1 → imgR M k n lap bnd mrg)
def Rel (k : Nat) (M : Mm) : Prop := ∃ n T Y lap bnd mrg, cls M n T Y lap bnd mrg ∧ mdl M n T Y lap bnd mrg ∧ relX M k n lap bnd mrg
theorem ledR_mono {M M2 : Mm} {l n a : Nat} {p f : Nat → Int} (e : ∀ q, q < 5 → ∀ j, M2 (l + q) j = M (l + q) j) (h : ledR M l n a p f) : ledR M2 l n a p f := by
  obtain ⟨h1, h2, h3, h4⟩ := h
  have e0 := fun j => e 0 (by omega) j
  simp only [Nat.add_zero] at e0
  refine ⟨by rw [e0]; exact h1, h2, h3, fun i hi => ?_⟩
  rw [e 1 (by omega), e 2 (by omega), e 3 (by omega), e 4 (by omega)]
  exact h4 i hi
theorem tRw_fr {M M2 : Mm} {o : Nat} (e : ∀ q, q < 3 → ∀ j, M2 (o + q) j = M (o + q) j) : tRw M2 o = tRw M o :=
  tRw_cells (fun b h1 h2 j => by
    obtain ⟨q, rfl⟩ : ∃ q, b = o + q := ⟨b - o, by omega⟩
    exact e q (by omega) j)
theorem rowR_fr {M M2 : Mm} {s n : Nat} {f : Nat → Int} (hn : n ≤ 8) (e : ∀ b, s + 5 ≤ b → b < s + 30 → ∀ j, M2 b j = M b j) (h : rowR M s f n) : rowR M2 s f n := by
  intro t ht
  obtain ⟨h1, h2, h3, h4, h5⟩ := h t ht
  refine ⟨?_, ?_, ?_, ?_, ?_⟩
  · rw [tRw_fr (fun q hq j => e _ (by omega) (by omega) j)]; exact h1
  · rw [e _ (by omega) (by omega)]; exact h2
  · rw [e _ (by omega) (by omega)]; exact h3
  · rw [e _ (by omega) (by omega)]; exact h4
  · rw [e _ (by omega) (by omega)]; exact h5
theorem imgR_fr {M M2 : Mm} {k k2 n : Nat} {lap bnd mrg : Int} (hn : n ≤ 8) (hk : k ≤ k2) (e : ∀ b, (115 ≤ b ∧ b < 154 ∨ 186 ≤ b ∧ b ≤ 190) → ∀ j, M2 b j = M b j) (e7 : M2 154 70 = M 154 70) (e8 : M2 154 71 = M 154 71) (h : imgR M k n lap bnd mrg) : imgR M2 k2 n lap bnd mrg := by
  obtain ⟨h1, h2, h3, ⟨a, h4, h5⟩, ⟨m, m1, m2, m3, m4⟩, h6⟩ := h
  have f6 : M2 186 = M 186 := funext (e 186 (by omega))
  have f7 : M2 187 = M 187 := funext (e 187 (by omega))
  refine ⟨wfS_cells (fun b p1 p2 j => e b (by omega) j) h1, ?_, ?_, ⟨a, e7.trans h4, ?_⟩, ⟨m, (e _ (by omega) _).trans m1, e8.trans m2, m3, fun i hi => ?_⟩, fun j hj => ?_⟩
  · rw [e _ (by omega), e _ (by omega), e _ (by omega), e _ (by omega)]; exact h2
  · rw [f6]; exact rowR_fr hn (fun b p1 p2 j => e b (by omega) j) h3
  · rw [f6, f7]; exact ledR_mono (fun q hq j => e _ (by omega) j) h5
  · rw [e _ (by omega), e _ (by omega), e _ (by omega), e _ (by omega)]; exact m4 i hi
  · rw [e _ (by omega), e _ (by omega)]
    obtain ⟨q1, q2, q3⟩ := h6 j hj
    exact ⟨q1, q2, by omega⟩
/-- outside the scratch of both nothing has changed -/
theorem relX_fr {M M2 : Mm} {k k2 n : Nat} {lap bnd mrg : Int} (hn : n ≤ 8) (hk : k ≤ k2) (e : ∀ b j, ¬ scrF b j → ¬ scrM b j → M2 b j = M b j) (h : relX M k n lap bnd mrg) : relX M2 k2 n lap bnd mrg := by
  obtain ⟨h1, ⟨m, N, Z, h2, h3⟩, h4, ⟨L, h5, h6, h7⟩, h8, ⟨a, h9, h10⟩, h11, h12, h13⟩ := h
  have E : ∀ b j, ¬ (33 ≤ b ∧ b < 76) → ¬ (b = 154 ∧ (j = 1 ∨ 26 ≤ j ∧ j ≤ 57 ∨ 63 ≤ j ∧ j ≤ 68)) → ¬ (162 ≤ b ∧ b ≤ 180) → b ≠ 184 → b ≠ 185 → M2 b j = M b j := fun b j a1 a2 a3 a4 a5 => e b j (fun z => a1 z) (fun z => by unfold scrM at z; omega)
  have f8 : M2 158 = M 158 := funext (fun j => E _ _ (by omega) (by omega) (by omega) (by omega) (by omega))
  have f1 : M2 181 = M 181 := funext (fun j => E _ _ (by omega) (by omega) (by omega) (by omega) (by omega))
  refine ⟨?_, ⟨m, N, Z, ?_, ?_⟩, fun j hj => ?_, ⟨L, ⟨?_, ?_, h5.2.2⟩, fun j hj => ?_, fun j => ?_⟩, ?_, ⟨a, ?_, ?_⟩, ?_, ?_, fun z => ?_⟩
  · rw [f8]; exact rowR_fr hn (fun b p1 p2 j => E _ _ (by omega) (by omega) (by omega) (by omega) (by omega)) h1
  · obtain ⟨q1, q2, q3⟩ := h2
    refine ⟨(E _ _ (by omega) (by omega) (by omega) (by omega) (by omega)).trans q1, q2, fun i hi => ?_⟩
    rw [E 112 _ (by omega) (by omega) (by omega) (by omega) (by omega), E 113 _ (by omega) (by omega) (by omega) (by omega) (by omega)]
    exact q3 i hi
  · obtain ⟨q1, q2, q3⟩ := h3
    refine ⟨(E _ _ (by omega) (by omega) (by omega) (by omega) (by omega)).trans q1, q2, fun i hi => ?_⟩
    rw [E 182 _ (by omega) (by omega) (by omega) (by omega) (by omega), E 183 _ (by omega) (by omega) (by omega) (by omega) (by omega)]
    exact q3 i hi
  · rw [E 114 _ (by omega) (by omega) (by omega) (by omega) (by omega), E 160 _ (by omega) (by omega) (by omega) (by omega) (by omega)]
    obtain ⟨q1, q2, q3⟩ := h4 j hj
    exact ⟨q1, q2, by omega⟩
  · exact (E _ _ (by omega) (by omega) (by omega) (by omega) (by omega)).trans h5.1
  · exact (E _ _ (by omega) (by omega) (by omega) (by omega) (by omega)).trans h5.2.1
  · rw [E 2 _ (by omega) (by omega) (by omega) (by omega) (by omega), E 161 _ (by omega) (by omega) (by omega) (by omega) (by omega)]
    exact h6 j hj
  · rw [E 2 _ (by omega) (by omega) (by omega) (by omega) (by omega)]
    exact h7 j
  · rw [E 1 3 (by omega) (by omega) (by omega) (by omega) (by omega), E 154 17 (by omega) (by omega) (by omega) (by omega) (by omega)]
    exact h8
  · exact (E _ _ (by omega) (by omega) (by omega) (by omega) (by omega)).trans h9
  · rw [f8, f1]; exact ledR_mono (fun q hq j => E _ _ (by omega) (by omega) (by omega) (by omega) (by omega)) h10
  · exact relG_mv h11 (fun b j hb => E b j (by omega) (by omega) (by omega) (by omega) (by omega))
  · rw [E 0 14 (by omega) (by omega) (by omega) (by omega) (by omega), E 154 69 (by omega) (by omega) (by omega) (by omega) (by omega)]; exact h12
  · rw [E 0 14 (by omega) (by omega) (by omega) (by omega) (by omega)] at z
    exact imgR_fr hn hk (fun b hb j => E _ _ (by omega) (by omega) (by omega) (by omega) (by omega)) (E _ _ (by omega) (by omega) (by omega) (by omega) (by omega)) (E _ _ (by omega) (by omega) (by omega) (by omega) (by omega)) (h13 z)
section REL
variable {k n : Nat} {T : Nat → Rw} {Y : Nat → Int} {lap bnd mrg : Int} {M M1 M2 : Mm}
/-- the class has asked, the reference not yet -/
theorem mdl_scr (h : mdl M n T Y lap bnd mrg) (f : FrP scrF M M1) : mdl M1 n T Y lap bnd mrg := mdl_fr h f (fun b j z => by unfold scrF at z; omega)
theorem rel_q {c : Int} (hm : mdl M n T Y lap bnd mrg) (hx : relX M k n lap bnd mrg) (h1 : cls M1 n T Y lap bnd mrg) (f : FrP scrF M M1) (r : rsM M1 c M2) : M2 154 1 = c ∧ Rel (k + 1) M2 := by
  refine ⟨r.1, n, T, Y, lap, bnd, mrg, cls_out h1 (fun b p1 p2 j => r.2 _ _ (fun z => by unfold scrM at z; omega)), mdl_fr (mdl_scr hm f) r.2 scr_mdl, relX_fr hm.1.2 (by omega) (fun b j z1 z2 => (r.2 b j z2).trans (f b j z1)) hx⟩
/-- one call of both: like answers, the relation again -/
abbrev Sim (mA mB : Nat) (as : List AV) (k : Nat) (M : Mm) : Prop := CallI mA (.inr 0 :: as) M (fun x M1 => inR x ∧ CallI mB (.inr 154 :: as) M1 (fun y M2 => x = y ∧ M2 154 1 = 0 ∧ Rel (k + 1) M2))
/-- .. or the class throws q, and the reference has the code c -/
abbrev SimX (mA mB : Nat) (as : List AV) (k q0 : Nat) (c : Int) (M : Mm) : Prop := ∃ X, ThrP mA (.inr 0 :: as) M X ∧ ∀ q M1, X q M1 → q = q0 ∧ CallI mB (.inr 154 :: as) M1 (fun _ M2 => M2 154 1 = c ∧ Rel (k + 1) M2)
theorem sim_q {mA mB : Nat} {as : List AV} {v : Int} (hm : mdl M n T Y lap bnd mrg) (hx : relX M k n lap bnd mrg) (hv : inR v) (hA : CallI mA (.inr 0 :: as) M (fun x M' => x = v ∧ cls M' n T Y lap bnd mrg ∧ FrP scrF M M')) (hB : ∀ M1, FrP scrF M M1 → mdl M1 n T Y lap bnd mrg → CallI mB (.inr 154 :: as) M1 (fun y M' => y = v ∧ rsM M1 0 M')) : Sim mA mB as k M := by
  refine hA.mono (fun x M1 z => ?_)
  obtain ⟨rfl, z1, z2⟩ := z
  refine ⟨hv, (hB M1 z2 (mdl_scr hm z2)).mono (fun y M2 w => ?_)⟩
  exact ⟨w.1.symm, rel_q hm hx z1 z2 w.2⟩
theorem sim_x {mA mB q0 : Nat} {as : List AV} {c : Int} (hm : mdl M n T Y lap bnd mrg) (hx : relX M k n lap bnd mrg) (hA : ThrP mA (.inr 0 :: as) M (fun q M' => q = q0 ∧ cls M' n T Y lap bnd mrg ∧ FrP scrF M M')) (hB : ∀ M1, FrP scrF M M1 → mdl M1 n T Y lap bnd mrg → CallI mB (.inr 154 :: as) M1 (fun _ M' => rsM M1 c M')) : SimX mA mB as k q0 c M := by
  refine ⟨_, hA, fun q M1 z => ⟨z.1, ?_⟩⟩
  exact (hB M1 z.2.2 (mdl_scr hm z.2.2)).mono (fun y M2 w => rel_q hm hx z.2.1 z.2.2 w)
theorem sim_x0 {mA mB q0 : Nat} {as : List AV} {c : Int} (hc : cls M n T Y lap bnd mrg) (hm : mdl M n T Y lap bnd mrg) (hx : relX M k n lap bnd mrg) (hA : ThrP mA (.inr 0 :: as) M (fun q M' => q = q0 ∧ M' = M)) (hB : CallI mB (.inr 154 :: as) M (fun _ M' => rsM M c M')) : SimX mA mB as k q0 c M := by
  refine ⟨_, hA, fun q M1 z => ⟨z.1, ?_⟩⟩
  obtain ⟨z1, rfl⟩ := z
  exact hB.mono (fun y M2 w => rel_q hm hx hc FrP.rf w)
/-- the class doesn't write -/
theorem sim_q0 {mA mB : Nat} {as : List AV} {v : Int} (hc : cls M n T Y lap bnd mrg) (hm : mdl M n T Y lap bnd mrg) (hx : relX M k n lap bnd mrg) (hv : inR v) (hA : CallI mA (.inr 0 :: as) M (fun x M' => x = v ∧ M' = M)) (hB : CallI mB (.inr 154 :: as) M (fun y M' => y = v ∧ rsM M 0 M')) : Sim mA mB as k M := by
  refine hA.mono (fun x M1 z => ?_)
  obtain ⟨rfl, rfl⟩ := z
  exact ⟨hv, hB.mono (fun y M2 w => ⟨w.1.symm, rel_q hm hx hc FrP.rf w.2⟩)⟩
theorem relX_row (h : relX M k n lap bnd mrg) {t : Nat} (ht : t < n) : M (82 + 3 * t) 3 = M 158 (30 * t + 1) ∧ M (82 + 3 * t) 4 = M 158 (30 * t + 2) ∧ M (82 + 3 * t) 5 = M 158 (30 * t + 3) := by
  obtain ⟨-, -, h3, h4, h5⟩ := h.1 t ht
  exact ⟨h3, h4, h5⟩
end REL
