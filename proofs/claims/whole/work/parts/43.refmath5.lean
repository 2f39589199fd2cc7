theorem rng_out {c : Int32} (h : ¬ (128 ≤ c ∧ c ≤ 191)) : c < 128 ∨ 191 < c := by
  rw [i_le, i_le] at h
  by_cases h1 : c < 128
  · exact Or.inl h1
  · exact Or.inr (Decidable.by_contra (fun q => h ⟨h1, q⟩))
theorem rng_in {c : Int32} (h : 128 ≤ c ∧ c ≤ 191) : ¬ (c < 128 ∨ 191 < c) := by
  rw [i_le, i_le] at h
  exact fun q => q.elim h.1 h.2
theorem pf_out {g : Nat → Int32} {len k n : Nat} (hk : k < len) (hl : len ≤ 5760) (hn : n ≤ 4) (hb : j_bc (g k) = nI n) (h : n = 0 ∨ len < k + n) : j_pf g len k = -1 := by
  rw [j_pf, if_neg (by omega), if_pos]
  rw [hb, pk_sub (by omega)]
  rcases h with h | h
  · left; rw [h]; rfl
  · right; exact nI_lt (by omega) (by omega)
theorem pf_in {g : Nat → Int32} {len k n : Nat} (hk : k < len) (hl : len ≤ 5760) (hn : n ≤ 4) (hb : j_bc (g k) = nI n) (h0 : n ≠ 0) (h : k + n ≤ len) : j_pf g len k = match j_pfl g len (nI (k + n)) (len - (k + 1)) (k + 1) (g k - j_fbo (nI n)) with
    | none => -1
    | some p => if j_told p (nI n) then p else -1 := by
  have hno : ¬ (j_bc (g k) = 0 ∨ nI len - nI k < j_bc (g k)) := by
    rw [hb, pk_sub (by omega)]
    rintro (q | q)
    · exact h0 ((nI_eq (a := n) (b := 0) (by omega) (by omega)).mp q)
    · have := (nI_ltI (by omega) (by omega)).mp q
      omega
  rw [j_pf, if_neg (by omega), if_neg hno, hb, nI_add]
  rfl
abbrev u_stq (kd : Int32) (xs ys : List Int32) (k q : Nat) : Prop := ¬ (kd = 0 ∧ u_ins xs k) ∧ ¬ (kd = 0 ∧ u_ins xs (k + ys.length)) ∧ ∀ m, m < q → lf xs (k + m) = lf ys m
theorem u_stq_up {kd : Int32} {xs ys : List Int32} {k q q' : Nat} (h : u_stq kd xs ys k q') (hq : q ≤ q') : u_stq kd xs ys k q := ⟨h.1, h.2.1, fun m hm => h.2.2 m (by omega)⟩
abbrev u_eqq (xs ys : List Int32) (q : Nat) : Prop := xs.length = ys.length ∧ ∀ m, m < q → lf xs m = lf ys m
theorem u_eqq_all {xs ys : List Int32} : u_eqq xs ys ys.length ↔ xs = ys := by
  constructor
  · rintro ⟨h1, h2⟩
    exact same_iff.mp ⟨h1, fun k hk => h2 k (by omega)⟩
  · rintro rfl
    exact ⟨rfl, fun _ _ => rfl⟩
