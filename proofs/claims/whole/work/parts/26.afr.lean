/-! FRAMES by a condition. -/
def FrP (P : Nat → Nat → Prop) (M M' : Mm) : Prop := ∀ b j, ¬ P b j → M' b j = M b j
theorem FrP.rf {P : Nat → Nat → Prop} {M : Mm} : FrP P M M := fun _ _ _ => Eq.refl _
theorem FrP.tr {P : Nat → Nat → Prop} {M M1 M2 : Mm} (h : FrP P M M1) (g : FrP P M1 M2) : FrP P M M2 := fun b j hb => (g b j hb).trans (h b j hb)
theorem FrP.wd {P Q : Nat → Nat → Prop} {M M1 : Mm} (h : FrP P M M1) (hq : ∀ b j, P b j → Q b j) : FrP Q M M1 := fun b j hb => h b j (fun z => hb (hq b j z))
theorem FrP.st {P : Nat → Nat → Prop} {M M1 : Mm} {a k : Nat} {v : Int} (h : FrP P M M1) (hp : P a k) : FrP P M (mset M1 a k v) := fun b j hb => by
  have e : mset M1 a k v b j = M1 b j := by
    simp only [mset]
    rw [if_neg]
    rintro ⟨rfl, rfl⟩
    exact hb hp
  exact e.trans (h b j hb)
