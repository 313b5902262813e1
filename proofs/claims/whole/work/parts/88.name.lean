/-! name: what the names are worth, as a fraction in lowest terms -/
/-- Euclid's steps -/
def gs (x y : Nat) : Nat → Nat × Nat
  | 0 => (x, y)
  | k + 1 => if (gs x y k).2 = 0 then gs x y k else ((gs x y k).2, (gs x y k).1 % (gs x y k).2)
def rp0 (s : St) (m : Nat) : Int32 := rp (mkt s 0 (-1) (-1) m)
section NAME
variable {v c u n m l p q d : Nat} {w w' : cm_W} {s s' : St} {M : Mk}
theorem gs_sp (x y : Nat) (h0 : 0 < y) : ∀ k, (gs x y k).2 + k ≤ y ∨ ((gs x y k).2 = 0 ∧ 0 < (gs x y k).1) := by
  intro k
  induction k with
  | zero => exact Or.inl (Nat.le_refl _)
  | succ k ih =>
    have st : gs x y (k + 1) = if (gs x y k).2 = 0 then gs x y k else ((gs x y k).2, (gs x y k).1 % (gs x y k).2) := rfl
    by_cases z : (gs x y k).2 = 0
    · rw [if_pos z] at st
      rw [st]
      rcases ih with ih | ih
      · by_cases zz : 0 < (gs x y k).1
        · exact Or.inr ⟨z, zz⟩
        · exfalso
          -- the first is never 0
          have pos : ∀ k, 0 < (gs x y k).1 ∨ (k = 0 ∧ (gs x y k).2 = y) := by
            intro k
            induction k with
            | zero => exact Or.inr ⟨rfl, rfl⟩
            | succ k ih =>
              have st : gs x y (k + 1) = if (gs x y k).2 = 0 then gs x y k else ((gs x y k).2, (gs x y k).1 % (gs x y k).2) := rfl
              by_cases z : (gs x y k).2 = 0
              · rw [if_pos z] at st
                rw [st]
                rcases ih with ih | ⟨-, ih⟩
                · exact Or.inl ih
                · omega
              · rw [if_neg z] at st
                rw [st]
                exact Or.inl (Nat.pos_of_ne_zero z)
          rcases pos k with h | ⟨h, h2⟩
          · exact zz h
          · omega
      · exact Or.inr ih
    · rw [if_neg z] at st
      rw [st]
      rcases ih with ih | ih
      · have := Nat.mod_lt (gs x y k).1 (Nat.pos_of_ne_zero z)
        refine Or.inl ?_
        show (gs x y k).1 % (gs x y k).2 + (k + 1) ≤ y
        omega
      · exact absurd ih.1 z
end NAME
