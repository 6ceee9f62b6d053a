/-! THE FIRST STATE's calls: the nights of frost (all yards alike) -/
section FO
variable {L : Nat} {xs : Nat → Int} {d : Nat} {v u : Nat → Nat → Int} {w x : Nat} {c : Int}
abbrev FrW (w x : Nat) : Prop := (w = 39 ∧ x = 40) ∨ (w = 40 ∧ x = 39)
theorem fr_sh (h : FrW w x) : pm_get SH w = some (1, 0, 30) ∧ (∀ k, refAt w k = none) ∧ w < 1000 := by
  rcases h with ⟨rfl, rfl⟩ | ⟨rfl, rfl⟩
  · exact ⟨rfl, nr_of rfl, by decide⟩
  · exact ⟨rfl, nr_of rfl, by decide⟩
theorem FrW_sym (h : FrW w x) : FrW x w := by
  rcases h with ⟨rfl, rfl⟩ | ⟨rfl, rfl⟩
  · exact Or.inr ⟨rfl, rfl⟩
  · exact Or.inl ⟨rfl, rfl⟩
end FO
