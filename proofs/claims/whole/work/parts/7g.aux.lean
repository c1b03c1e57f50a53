/-! THE LAW, 5: yard, the numbers of the calls. -/
theorem simWy {w : Int} {k : Nat} {M : Mm} (hR : Rel k M) (hw : inR w) : SimW [(1, 1)] m_RingDater_yard m_Model_yard [.inl w] k M := by
  obtain ⟨n, T, Y, lap, bnd, mrg, hc, hm, hx⟩ := id hR
  obtain ⟨x1, x2, x3, ⟨L, ⟨y1, y2, y3⟩, y4, y5⟩, x5, x6, x7, x8⟩ := relX_of hx
  by_cases h : w < 0 ∨ (L : Int) < w
  · exact .inr ⟨(1, 1), by simp, sim_yard_x hR hw y1 h⟩
  · have e : w = ((w.toNat : Nat) : Int) := by omega
    have h2 := sim_yard (n0 := w.toNat) hR y1 (by omega)
    rw [← e] at h2
    exact .inl h2
theorem Rel_up {k : Nat} {M : Mm} (hR : Rel k M) : Rel (k + 1) M := by
  obtain ⟨n, T, Y, lap, bnd, mrg, hc, hm, hx⟩ := hR
  exact ⟨n, T, Y, lap, bnd, mrg, hc, hm, relX_fr hm.1.2 (Nat.le_succ k) (fun _ _ _ _ => rfl) hx⟩
theorem bAnd_31 (x : Int) : 0 ≤ bAnd x 31 ∧ bAnd x 31 ≤ 31 := by
  unfold bAnd
  have h := pk_and (iN x) (m := iN 31) 5 (by decide)
  rw [h]
  have h2 : (iN x).toBitVec.toNat % 2 ^ 5 < 2 ^ 5 := Nat.mod_lt _ (by decide)
  rw [nI_toInt (by omega)]
  omega
