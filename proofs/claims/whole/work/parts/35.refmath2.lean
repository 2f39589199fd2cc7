def u_wp (rs : Rws) (x : Option Nat) : Int32 := match x with
  | none => 1
  | some r => if (rs r).1 = 2 then 2 else 0
theorem rOK.nm1 {x : Int32 × List Int32} (h : rOK x) : x.1 ≠ -1 := by
  rcases h with h | h | h <;> rw [h.1] <;> decide
theorem rOK.one {x : Int32 × List Int32} (h : rOK x) (h0 : x.1 ≠ 0) (h2 : x.1 ≠ 2) : x.1 = 1 := by
  rcases h with h | h | h
  · exact absurd h.1 h0
  · exact h.1
  · exact absurd h.1 h2
theorem rl_lay {xs : List Int32} {f : Nat → Int32} : rl (itN (fun j f => upd f j (lf xs j)) xs.length f, xs.length) = xs := by
  have h : ∀ (k j : Nat), j < k → itN (fun j f => upd f j (lf xs j)) k f j = lf xs j := by
    intro k
    induction k with
    | zero => intro j h; omega
    | succ k ih =>
      intro j hj
      show upd (itN (fun j f => upd f j (lf xs j)) k f) k (lf xs k) j = _
      by_cases e : j = k
      · subst e; exact pk_us
      · rw [pk_un e]; exact ih j (by omega)
  unfold rl
  simp only
  rw [List.map_congr_left (g := lf xs) (fun k hk => h _ k (List.mem_range.mp hk)), tk_lf]
theorem rl_pu {X : Rw} {f : Nat → Int32} (h : X.2 ≤ 240) : rl (itN (fun k Y => r_uni 480 (X.1 k) Y) X.2 (f, 0)) = (rl X).flatMap u_units := by
  rw [rl_itX (n := 480) (b := 2) (φ := u_units) u_units_le (fun k _ Y hY => rl_uni hY) (by simp only; omega)]
  rfl
theorem told_iff {p : Int32} {n : Nat} (h : n ≤ 4) (h0 : 1 ≤ n) : j_told p (nI n) ↔ (n < 3 ∨ (n = 3 ∧ 2048 ≤ p ∧ ¬ j_high p ∧ ¬ j_low p) ∨ (n = 4 ∧ 65536 ≤ p ∧ p ≤ 1114111)) := by
  unfold j_told
  have e3 : (nI n = 3) ↔ n = 3 := nI_eq (a := n) (b := 3) (by omega) (by omega)
  have e4 : (nI n = 4) ↔ n = 4 := nI_eq (a := n) (b := 4) (by omega) (by omega)
  by_cases h3 : n = 3
  · rw [if_pos (e3.mpr h3)]
    constructor
    · intro q; exact Or.inr (Or.inl ⟨h3, q⟩)
    · rintro (q | q | q)
      · omega
      · exact q.2
      · omega
  · rw [if_neg (fun q => h3 (e3.mp q))]
    by_cases h4 : n = 4
    · rw [if_pos (e4.mpr h4)]
      constructor
      · intro q; exact Or.inr (Or.inr ⟨h4, q⟩)
      · rintro (q | q | q)
        · omega
        · omega
        · exact q.2
    · rw [if_neg (fun q => h4 (e4.mp q))]
      constructor
      · intro _; exact Or.inl (by omega)
      · intro _; trivial
theorem fbo_1 : j_fbo (nI 1) = 0 := by decide
theorem fbo_2 : j_fbo (nI 2) = 192 := by decide
theorem fbo_3 : j_fbo (nI 3) = 224 := by decide
theorem fbo_4 : j_fbo (nI 4) = 240 := by decide
theorem pf_step (p c : Int32) : 64 * p + c - 128 = p * 64 + (c - 128) := by
  rw [Int32.mul_comm, Int32.sub_eq_add_neg, Int32.sub_eq_add_neg, Int32.add_assoc]
theorem r_mb_cnt {n : Nat} {p : Int32} {Y : Rw} (h : Y.2 + (u_mb p).length ≤ n) : (r_mb n p Y).2 = Y.2 + (u_mb p).length := by
  have h1 := congrArg List.length (rl_mb h)
  rw [rl_len, List.length_append, rl_len] at h1
  exact h1
