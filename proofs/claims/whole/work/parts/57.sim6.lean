/-! THE CALLS, 6: undo, note, forget, image, restore, feed. -/
theorem tmA_e {M : Mm} {n : Nat} {sb : Int} (h3 : M 76 3 = n) (h0 : 0 ≤ sb ∧ sb < n) : tmA M 76 sb = 82 + 3 * sb.toNat := by
  unfold tmA
  rw [if_pos (by omega)]
section SIM6
variable {k n : Nat} {T : Nat → Rw} {Y : Nat → Int} {lap bnd mrg : Int} {M M1 M2 M3 : Mm}
/-- an act taken back: the class's timbers hold what the past row says -/
theorem tkb_row {kd sb rg bf : Int} {g : Nat → Int} {M0 : Mm} (hc : cls M0 n T Y lap bnd mrg) (n8 : n ≤ 8) (hr : rowR M0 76 (M 158) n) (rw' : rowW (M 158) n) (hu : unR kd sb rg bf n (M 158) g) (hg : rowW g n) : rowR (mTkB M0 kd sb rg bf) 76 g n ∧ wfS (mTkB M0 kd sb rg bf) 76 ∧ ∀ j, 3 ≤ j → j < 7 → mTkB M0 kd sb rg bf 76 j = M0 76 j := by
  have h3 := hc.2.1.1
  have hw := hc.1.1.1
  obtain ⟨⟨u1, u2, u3, u4, u5, u6, u7⟩, un⟩ := hu
  -- rows that stay
  have stay : ∀ {MA : Mm} {s : Nat}, s < n → (∀ q, q < 3 → ∀ j, MA (82 + 3 * s + q) j = M0 (82 + 3 * s + q) j) → vT g s = vT (M 158) s → vH g s = vH (M 158) s → MA 81 s = vY g s → tRw MA (76 + 6 + 3 * s) = vT g s ∧ MA (76 + 5) s = vY g s ∧ MA (76 + 6 + 3 * s) 3 = g (30 * s + 1) ∧ MA (76 + 6 + 3 * s) 4 = g (30 * s + 2) ∧ MA (76 + 6 + 3 * s) 5 = vH g s := by
    intro MA s hs e eT eH eY
    obtain ⟨r1, r2, r3, r4, r5⟩ := hr s hs
    obtain ⟨-, -, -, v4, v5⟩ := un s hs
    have e0 := fun j => e 0 (by omega) j
    refine ⟨?_, eY, ?_, ?_, ?_⟩
    · rw [tRw_fr e, eT]; exact r1
    · rw [v4]; exact (e0 3).trans r3
    · rw [v5]; exact (e0 4).trans r4
    · rw [eH]; exact (e0 5).trans r5
  have Y81 : ∀ s, s < n → M0 81 s = vY (M 158) s := fun s hs => (hr s hs).2.1
  by_cases k0 : kd = 0
  · subst k0
    have hs := u4 (by omega)
    have e : mTkB M0 0 sb rg bf = mset M0 81 sb.toNat bf := by
      unfold mTkB
      rw [if_pos rfl, if_pos (by omega)]
    rw [e]
    have eo : ∀ b j, b ≠ 81 → mset M0 81 sb.toNat bf b j = M0 b j := fun b j hb => mset_ne b hb j
    have bfy : -1 ≤ bf ∧ bf ≤ 900 := by
      obtain ⟨-, v2, -⟩ := un sb.toNat (by omega)
      unfold unY at v2
      rw [if_pos ⟨rfl, by omega⟩] at v2
      rw [← v2]
      exact (hg sb.toNat (by omega)).2.1
    refine ⟨fun s hs2 => ?_, wfS_yr hw (fun b p1 p2 p3 j => eo b j p3) (fun s hs2 => ?_), fun j p1 p2 => eo _ _ (by omega)⟩
    · obtain ⟨v1, v2, v3, -⟩ := un s hs2
      unfold unT at v1
      unfold unY at v2
      unfold unH at v3
      rw [if_neg (by omega), if_neg (by omega), if_neg (by omega)] at v1
      rw [if_neg (by omega)] at v3
      refine stay hs2 (fun q hq j => eo _ _ (by omega)) v1 v3 ?_
      show (if 81 = 81 ∧ s = sb.toNat then bf else M0 81 s) = _
      rw [v2]
      by_cases c : s = sb.toNat
      · rw [if_pos ⟨rfl, c⟩, if_pos ⟨rfl, by omega⟩]
      · rw [if_neg (fun w => c w.2), if_neg (by omega), if_neg (by omega)]
        exact Y81 s hs2
    · show -1 ≤ (if 81 = 81 ∧ s = sb.toNat then bf else M0 81 s) ∧ (if 81 = 81 ∧ s = sb.toNat then bf else M0 81 s) ≤ 900
      split
      · exact bfy
      · exact hw.2.2.2.2.2.2 s hs2
  · by_cases k1 : kd = 1
    · subst k1
      have e : mTkB M0 1 sb rg bf = mUnd M0 sb 8 := by
        unfold mTkB
        rw [if_neg (by omega), if_pos rfl]
      rw [e]
      have eo : ∀ b j, b ≠ 81 → mUnd M0 sb 8 b j = M0 b j := fun b j hb => if_neg (fun w => hb w.1)
      refine ⟨fun s hs2 => ?_, wfS_yr hw (fun b p1 p2 p3 j => eo b j p3) (fun s hs2 => ?_), fun j p1 p2 => eo _ _ (by omega)⟩
      · obtain ⟨v1, v2, v3, -⟩ := un s hs2
        unfold unT at v1
        unfold unY at v2
        unfold unH at v3
        rw [if_neg (by omega), if_neg (by omega), if_neg (by omega)] at v1
        rw [if_neg (by omega)] at v3
        refine stay hs2 (fun q hq j => eo _ _ (by omega)) v1 v3 ?_
        show (if 81 = 81 ∧ s < 8 ∧ (s : Int) < M0 76 3 ∧ btI sb s = true then -1 else M0 81 s) = _
        rw [if_neg (show ¬ ((1 : Int) = 0 ∧ (s : Int) = sb) by omega)] at v2
        rw [v2]
        by_cases c : btI sb s = true
        · rw [if_pos ⟨rfl, by omega, by omega, c⟩, if_pos ⟨rfl, c⟩]
        · rw [if_neg (fun w => c w.2.2.2), if_neg (fun w => c w.2)]
          exact Y81 s hs2
      · show -1 ≤ (if 81 = 81 ∧ s < 8 ∧ (s : Int) < M0 76 3 ∧ btI sb s = true then -1 else M0 81 s) ∧ (if 81 = 81 ∧ s < 8 ∧ (s : Int) < M0 76 3 ∧ btI sb s = true then -1 else M0 81 s) ≤ 900
        split
        · omega
        · exact hw.2.2.2.2.2.2 s hs2
    · have hs := u4 k1
      have ea := tmA_e h3 hs
      obtain ⟨u, eu⟩ : ∃ u : Nat, sb = u := ⟨sb.toNat, by omega⟩
      subst eu
      rw [natT] at ea u5 u6 u7
      have hu : u < n := by omega
      have ru := hr u hu
      have em : M0 (82 + 3 * u) 2 = (vT (M 158) u).2.1 := by rw [← ru.1]; rfl
      have W := hw.2.2.2.2.1 u (by omega)
      have gu := hg u hu
      obtain ⟨v1, v2, v3, v4, v5⟩ := un u hu
      have oth : ∀ s, s < n → s ≠ u → vT g s = vT (M 158) s ∧ vY g s = vY (M 158) s ∧ vH g s = vH (M 158) s := by
        intro s hs2 hsu
        obtain ⟨w1, w2, w3, -⟩ := un s hs2
        unfold unT at w1
        unfold unY at w2
        unfold unH at w3
        rw [if_neg (by omega), if_neg (by omega), if_neg (by omega)] at w1
        rw [if_neg (by omega), if_neg (fun w => k1 w.1)] at w2
        rw [if_neg (by omega)] at w3
        exact ⟨w1, w2, w3⟩
      have vy : vY g u = vY (M 158) u := by
        unfold unY at v2
        rw [if_neg (by omega), if_neg (fun w => k1 w.1)] at v2
        exact v2
      -- what is to be shown of timber u
      have fin : ∀ MA : Mm, (∀ b j, ¬ (82 + 3 * u ≤ b ∧ b < 85 + 3 * u) → MA b j = M0 b j) → wfT MA (82 + 3 * u) → tRw MA (82 + 3 * u) = vT g u → MA (82 + 3 * u) 3 = M0 (82 + 3 * u) 3 → MA (82 + 3 * u) 4 = M0 (82 + 3 * u) 4 → MA (82 + 3 * u) 5 = vH g u → rowR MA 76 g n ∧ wfS MA 76 ∧ ∀ j, 3 ≤ j → j < 7 → MA 76 j = M0 76 j := by
        intro MA eo wf t1 t3 t4 t5
        refine ⟨fun s hs2 => ?_, wfS_tm hw (show u < 8 by omega) (fun b p1 p2 p3 j => eo b j (by omega)) wf, fun j p1 p2 => eo _ _ (by omega)⟩
        by_cases c : s = u
        · subst c
          refine ⟨t1, ?_, ?_, ?_, t5⟩
          · rw [vy, ← Y81 s hs2]; exact eo _ _ (by omega)
          · rw [v4]; exact t3.trans ru.2.2.1
          · rw [v5]; exact t4.trans ru.2.2.2.1
        · obtain ⟨o1, o2, o3⟩ := oth s hs2 c
          refine stay hs2 (fun q hq j => eo _ _ (by omega)) o1 o3 ?_
          rw [o2, ← Y81 s hs2]
          exact eo _ _ (by omega)
      by_cases k2 : kd = 2
      · subst k2
        have u5 := u5 rfl
        have e : mTkB M0 2 u rg bf = mRem M0 (82 + 3 * u) rg := by
          unfold mTkB
          rw [if_neg (by omega), if_neg (by omega), if_pos rfl, ea, if_pos (by omega)]
        rw [e]
        unfold unT at v1
        unfold unH at v3
        rw [if_pos ⟨rfl, rfl⟩] at v1
        rw [if_neg (by omega)] at v3
        have eo : ∀ b j, (b ≠ 82 + 3 * u + 1 ∧ b ≠ 82 + 3 * u + 2 ∧ ¬ (b = 82 + 3 * u ∧ j = 2)) → mRem M0 (82 + 3 * u) rg b j = M0 b j := fun b j z => by
          simp only [mRem]
          rw [if_neg (by omega), if_neg (by omega), if_neg (by omega)]
        refine fin _ (fun b j z => eo b j (by omega)) (mRem_wf W (by omega) (by show rg < M0 (82 + 3 * u) 2; omega)) ?_ (eo _ _ (by omega)) (eo _ _ (by omega)) ?_
        · rw [tRw_rem (by omega) (by omega), v1]
          exact congrArg (fun z => rwRem z rg) ru.1
        · rw [eo _ _ (by omega), v3]; exact ru.2.2.2.2
      · by_cases k3 : kd = 3
        · subst k3
          have u6 := u6 rfl
          have e : mTkB M0 3 u rg bf = mIns M0 (82 + 3 * u) rg bf := by
            unfold mTkB
            rw [if_neg (by omega), if_neg (by omega), if_neg (by omega), if_pos rfl, ea, if_pos (by omega)]
          rw [e]
          unfold unT at v1
          unfold unH at v3
          rw [if_neg (by omega), if_pos ⟨rfl, rfl⟩] at v1
          rw [if_neg (by omega)] at v3
          have eo : ∀ b j, (b ≠ 82 + 3 * u + 1 ∧ b ≠ 82 + 3 * u + 2 ∧ ¬ (b = 82 + 3 * u ∧ j = 2)) → mIns M0 (82 + 3 * u) rg bf b j = M0 b j := fun b j z => by
            simp only [mIns]
            rw [if_neg (by omega), if_neg (by omega), if_neg (by omega), if_neg (by omega), if_neg (by omega)]
          have bfr : 1 ≤ bf ∧ bf ≤ 99 := by
            have q := gu.1.2.1 rg.toNat (by rw [v1]; show ((rg.toNat : Nat) : Int) < (vT (M 158) u).2.1 + 1; omega)
            rw [v1] at q
            have e2 : (rwIns (vT (M 158) u) rg bf).1 rg.toNat = bf := by
              show (if ((rg.toNat : Nat) : Int) < (vT (M 158) u).2.1 + 1 then (if ((rg.toNat : Nat) : Int) = rg then bf else _) else 0) = bf
              rw [if_pos (by omega), if_pos (by omega)]
            rw [e2] at q
            exact q
          refine fin _ (fun b j z => eo b j (by omega)) (mIns_wf W (by show M0 (82 + 3 * u) 2 < 24; omega) (by omega)) ?_ (eo _ _ (by omega)) (eo _ _ (by omega)) ?_
          · rw [tRw_ins (by omega) (by omega), v1]
            exact congrArg (fun z => rwIns z rg bf) ru.1
          · rw [eo _ _ (by omega), v3]; exact ru.2.2.2.2
        · by_cases k4 : kd = 4
          · subst k4
            have u7 := u7 rfl
            have l24 := (rw' u hu).1.1.2
            have e : mTkB M0 4 u rg bf = mset M0 (82 + 3 * u + 2) rg.toNat (1 - M0 (82 + 3 * u + 2) rg.toNat) := by
              unfold mTkB
              rw [if_neg (by omega), if_neg (by omega), if_neg (by omega), if_neg (by omega), if_pos rfl, ea, if_pos (by omega)]
            rw [e]
            unfold unT at v1
            unfold unH at v3
            rw [if_neg (by omega), if_neg (by omega), if_pos ⟨rfl, rfl⟩] at v1
            rw [if_neg (by omega)] at v3
            have eo : ∀ b j, ¬ (b = 82 + 3 * u + 2 ∧ j = rg.toNat) → mset M0 (82 + 3 * u + 2) rg.toNat (1 - M0 (82 + 3 * u + 2) rg.toNat) b j = M0 b j := fun b j z => if_neg z
            have ep : mset M0 (82 + 3 * u + 2) rg.toNat (1 - M0 (82 + 3 * u + 2) rg.toNat) (82 + 3 * u + 2) rg.toNat = 1 - M0 (82 + 3 * u + 2) rg.toNat := if_pos ⟨rfl, rfl⟩
            generalize mset M0 (82 + 3 * u + 2) rg.toNat (1 - M0 (82 + 3 * u + 2) rg.toNat) = MA at *
            refine fin _ (fun b j z => eo b j (by omega)) ?_ ?_ (eo _ _ (by omega)) (eo _ _ (by omega)) ?_
            · obtain ⟨w1, w2, w3, w4, w5, w6⟩ := W
              refine ⟨?_, fun j hj => ?_, fun j hj => ?_, ?_, ?_, ?_⟩
              · rw [eo _ _ (by omega)]; exact w1
              · rw [eo _ _ (by omega)]; exact w2 j hj
              · have := w3 j hj
                by_cases cj : j = rg.toNat
                · subst cj
                  rw [ep]
                  have w3' : M0 (82 + 3 * u + 2) rg.toNat = 0 ∨ M0 (82 + 3 * u + 2) rg.toNat = 1 := this
                  omega
                · rw [eo _ _ (by omega)]; exact this
              · rw [eo _ _ (by omega)]; exact w4
              · rw [eo _ _ (by omega)]; exact w5
              · rw [eo _ _ (by omega)]; exact w6
            · rw [v1, ← ru.1]
              have e2 : MA (82 + 3 * u) 2 = M0 (82 + 3 * u) 2 := eo _ _ (by omega)
              have f1 : MA (82 + 3 * u + 1) = M0 (82 + 3 * u + 1) := funext (fun j => eo _ _ (by omega))
              unfold tRw
              rw [e2, f1]
              refine Prod.ext rfl (Prod.ext rfl (funext fun j => ?_))
              show (if (j : Int) < M0 (82 + 3 * u) 2 then MA (82 + 3 * u + 2) j else 0) = if (j : Int) = rg ∧ (j : Int) < M0 (82 + 3 * u) 2 then 1 - (if (j : Int) < M0 (82 + 3 * u) 2 then M0 (82 + 3 * u + 2) j else 0) else (if (j : Int) < M0 (82 + 3 * u) 2 then M0 (82 + 3 * u + 2) j else 0)
              by_cases cl : (j : Int) < M0 (82 + 3 * u) 2
              · rw [if_pos cl, if_pos cl]
                by_cases cj : j = rg.toNat
                · subst cj
                  rw [if_pos ⟨by omega, cl⟩, ep]
                · rw [if_neg (fun w => cj (by omega)), eo _ _ (by omega)]
              · rw [if_neg cl, if_neg cl, if_neg (fun w => cl w.2)]
            · rw [eo _ _ (by omega), v3]; exact ru.2.2.2.2
          · have k5 : kd = 5 := by omega
            subst k5
            have e : mTkB M0 5 u rg bf = mset M0 (82 + 3 * u) 5 bf := by
              unfold mTkB
              rw [if_neg (by omega), if_neg (by omega), if_neg (by omega), if_neg (by omega), if_neg (by omega), ea]
            rw [e]
            unfold unT at v1
            unfold unH at v3
            rw [if_neg (by omega), if_neg (by omega), if_neg (by omega)] at v1
            rw [if_pos ⟨rfl, rfl⟩] at v3
            have eo : ∀ b j, ¬ (b = 82 + 3 * u ∧ j = 5) → mset M0 (82 + 3 * u) 5 bf b j = M0 b j := fun b j z => if_neg z
            have ep : mset M0 (82 + 3 * u) 5 bf (82 + 3 * u) 5 = bf := if_pos ⟨rfl, rfl⟩
            generalize mset M0 (82 + 3 * u) 5 bf = MA at *
            refine fin _ (fun b j z => eo b j (by omega)) ?_ ?_ (eo _ _ (by omega)) (eo _ _ (by omega)) ?_
            · obtain ⟨w1, w2, w3, w4, w5, w6⟩ := W
              refine ⟨?_, fun j hj => ?_, fun j hj => ?_, ?_, ?_, ?_⟩
              · rw [eo _ _ (by omega)]; exact w1
              · rw [eo _ _ (by omega)]; exact w2 j hj
              · rw [eo _ _ (by omega)]; exact w3 j hj
              · rw [eo _ _ (by omega)]; exact w4
              · rw [eo _ _ (by omega)]; exact w5
              · rw [ep, ← v3]
                exact gu.2.2.2.2.1
            · rw [v1, ← ru.1]
              have e2 : MA (82 + 3 * u) 2 = M0 (82 + 3 * u) 2 := eo _ _ (by omega)
              have f1 : MA (82 + 3 * u + 1) = M0 (82 + 3 * u + 1) := funext (fun j => eo _ _ (by omega))
              have f2 : MA (82 + 3 * u + 2) = M0 (82 + 3 * u + 2) := funext (fun j => eo _ _ (by omega))
              unfold tRw
              rw [e2, f1, f2]
            · rw [ep, v3]
end SIM6
