theorem w_no {P Q : Prop} [Decidable Q] (h : P ↔ ¬ Q) (q : ¬ P) : Q := Decidable.not_not.mp (fun z => q (h.mpr z))
theorem w_out {k : Int32} {len : Nat} (hl : len ≤ 5760) : (0 ≤ k ∧ k ≤ nI len - 1) ↔ ¬ j_out k len := by
  unfold j_out
  rw [i_le, i_le, i_lt, i_lt, i_l0, nI_m1 (by omega)]
  omega
theorem out_spec {k : Int32} {len : Nat} (hl : len ≤ 5760) (h : ¬ j_out k len) : ∃ kN : Nat, kN < len ∧ k = nI kN := by
  unfold j_out at h
  obtain ⟨j, hj, rfl⟩ := nI_of (x := k) (by rw [i_lt, i_l0]; omega)
  rw [nI_toInt hj] at h
  exact ⟨j, by omega, rfl⟩
theorem oI_inj {x y : Option Nat} (hx : ∀ q, x = some q → q < 24) (hy : ∀ q, y = some q → q < 24) : oI x = oI y ↔ x = y := by
  cases y with
  | none =>
    cases x with
    | none => simp
    | some q =>
      constructor
      · intro h; exact absurd h (nI_ne_m1 (by have := hx q rfl; omega))
      · intro h; cases h
  | some r => exact oI_eq hx (hy r rfl)
theorem rl_pt {X U : Rw} : ∀ {k : Nat}, k ≤ U.2 → X.2 + U.2 ≤ 60 → rl (itN (fun k Y => r_add 60 (U.1 k) Y) k X) = rl X ++ (rl U).take k ∧ (itN (fun k Y => r_add 60 (U.1 k) Y) k X).2 = X.2 + k
  | 0, _, _ => ⟨by simp [itN], rfl⟩
  | k + 1, h, h2 => by
    obtain ⟨h3, h4⟩ := rl_pt (X := X) (U := U) (k := k) (by omega) h2
    have h5 : (itN (fun k Y => r_add 60 (U.1 k) Y) k X).2 < 60 := by omega
    constructor
    · show rl (r_add 60 (U.1 k) (itN (fun k Y => r_add 60 (U.1 k) Y) k X)) = _
      rw [rl_add h5, h3, List.take_succ, List.append_assoc]
      congr 2
      have : k < U.2 := by omega
      simp [rl, this]
    · show (r_add 60 (U.1 k) (itN (fun k Y => r_add 60 (U.1 k) Y) k X)).2 = _
      rw [r_add_cnt h5, h4]
      omega
