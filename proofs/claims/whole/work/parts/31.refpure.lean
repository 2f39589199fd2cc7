theorem j_bc' {P Q : Prop} [Decidable P] [Decidable Q] (h : P ↔ Q) : j_b P = j_b Q := by
  by_cases hp : P
  · rw [j_b, j_b, if_pos hp, if_pos (h.mp hp)]
  · rw [j_b, j_b, if_neg hp, if_neg (fun q => hp (h.mpr q))]
theorem w_text (t : Int32) : (0 ≤ t ∧ t ≤ 9) ↔ ¬ j_noText t := by
  unfold j_noText
  rw [i_le, i_le, i_le, i_lt, i_lt, i_lt, i_l0, show (9 : Int32).toInt = 9 from rfl, show (10 : Int32).toInt = 10 from rfl]
  omega
theorem w_point (p : Int32) : (0 ≤ p ∧ p ≤ 1114111) ↔ ¬ j_noPoint p := by
  unfold j_noPoint
  rw [i_le, i_le]
  constructor
  · rintro ⟨h1, h2⟩ (h | h)
    · exact h1 h
    · exact h2 h
  · intro h
    exact ⟨fun q => h (Or.inl q), fun q => h (Or.inr q)⟩
theorem w_high (u : Int32) : (55296 ≤ u ∧ u ≤ 56319) ↔ j_high u := by
  unfold j_high
  rw [i_le u 56319, i_lt, i_lt, show (56319 : Int32).toInt = 56319 from rfl, show (56320 : Int32).toInt = 56320 from rfl]
  constructor
  · rintro ⟨h1, h2⟩; exact ⟨h1, by omega⟩
  · rintro ⟨h1, h2⟩; exact ⟨h1, by omega⟩
theorem w_unit (u : Int32) : (0 ≤ u ∧ u ≤ 65535) ↔ ¬ (u < 0 ∨ 65535 < u) := by
  rw [i_le, i_le]
  constructor
  · rintro ⟨h1, h2⟩ (h | h)
    · exact h1 h
    · exact h2 h
  · intro h
    exact ⟨fun q => h (Or.inl q), fun q => h (Or.inr q)⟩
theorem w_form (f : Int32) : (0 ≤ f ∧ f ≤ 3) ↔ ¬ j_noForm f := by
  unfold j_noForm
  rw [i_le, i_le]
  constructor
  · rintro ⟨h1, h2⟩ (h | h)
    · exact h1 h
    · exact h2 h
  · intro h
    exact ⟨fun q => h (Or.inl q), fun q => h (Or.inr q)⟩
theorem w_sort (f : Int32) : (0 ≤ f ∧ f ≤ 2) ↔ ¬ (f < 0 ∨ 2 < f) := by
  rw [i_le, i_le]
  constructor
  · rintro ⟨h1, h2⟩ (h | h)
    · exact h1 h
    · exact h2 h
  · intro h
    exact ⟨fun q => h (Or.inl q), fun q => h (Or.inr q)⟩
theorem w_way (y : Int32) : (0 ≤ y ∧ y ≤ 1) ↔ ¬ j_noWay y := by
  unfold j_noWay
  rw [i_le, i_le, i_lt, i_lt, i_l0, i_l1, Ne, Ne, ← Int32.toInt_inj, ← Int32.toInt_inj, i_l0, i_l1]
  omega
theorem nt_of {t : Int32} (h : ¬ ¬ j_noText t) : j_noText t := Decidable.not_not.mp h
