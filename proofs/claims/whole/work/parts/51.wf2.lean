theorem tp_rng {form p : Int32} (h : 0 ≤ p.toInt ∧ p.toInt ≤ 1114111) (hb : form = 3 → p.toInt ≤ 255) : rng 255 (u_tp form p) := by
  unfold u_tp
  split
  · rename_i h3
    exact rng_cons ⟨h.1, hb h3⟩ rng_nil
  · exact mb_rng2 h
theorem find_none {P : Int32 → Prop} [DecidablePred P] : ∀ {xs : List Int32} {k : Nat}, k + xs.length < 2 ^ 31 → u_find P xs k = -1 → ∀ x ∈ xs, ¬ P x
  | [], _, _, _ => fun _ h => absurd h List.not_mem_nil
  | a :: l, k, hk, h => by
    rw [List.length_cons] at hk
    rw [u_find] at h
    split at h
    · exact absurd h (nI_ne_m1 (by omega))
    · rename_i hp
      intro x hx
      rcases List.mem_cons.mp hx with e | e
      · rw [e]; exact hp
      · exact find_none (k := k + 1) (by omega) h x e
theorem wf_mk {S : Sg} (h : WF S) {t : Nat} (ht : t < 10) {kd : Int32} {xs : List Int32} (hx : rOK (kd, xs)) : WF (s_mk S t kd xs).2 := by
  obtain ⟨h1, h2, h3, h4, h5⟩ := h
  obtain ⟨f1, f2⟩ := u_free_spec h2 h3
  refine ⟨h1, fun t' ht' => ?_, h3, fun r hr => ?_, fun r hr => ?_⟩
  · show va_up S.2.2.2.1 t (some _) t' = none
    have : t' ≠ t := by omega
    simp only [va_up, this, if_false]
    exact h2 t' ht'
  · show r < 24 ∧ rOK (va_up S.2.2.2.2.2 (u_free S.2.2.2.1 S.2.2.2.2.1) (kd, xs) r)
    by_cases e : r = u_free S.2.2.2.1 S.2.2.2.2.1
    · rw [e]
      refine ⟨f2, ?_⟩
      simp only [va_up, if_true]
      exact hx
    · have hl : live S.2.2.2.1 S.2.2.2.2.1 r := by
        rcases hr with ⟨t', ht'⟩ | hk
        · have ht'' : va_up S.2.2.2.1 t (some (u_free S.2.2.2.1 S.2.2.2.2.1)) t' = some r := ht'
          by_cases e2 : t' = t
          · subst e2
            simp only [va_up, if_true] at ht''
            exact absurd (Option.some.inj ht'').symm e
          · simp only [va_up, e2, if_false] at ht''
            exact Or.inl ⟨t', ht''⟩
        · exact Or.inr hk
      simp only [va_up, e, if_false]
      exact h4 r hl
  · show (va_up S.2.2.2.2.2 (u_free S.2.2.2.1 S.2.2.2.2.1) (kd, xs) r).1 = 0
    have e : r ≠ u_free S.2.2.2.1 S.2.2.2.2.1 := fun e => f1 (by rw [← e]; exact Or.inr hr)
    simp only [va_up, e, if_false]
    exact h5 r hr
theorem wf_tx {S : Sg} (h : WF S) {t : Nat} (ht : t < 10) {v : Option Nat} (hv : ∀ r, v = some r → live S.2.2.2.1 S.2.2.2.2.1 r) : WF (s_tx S t v) := by
  obtain ⟨h1, h2, h3, h4, h5⟩ := h
  refine ⟨h1, fun t' ht' => ?_, h3, fun r hr => h4 r ?_, h5⟩
  · show va_up S.2.2.2.1 t v t' = none
    have : t' ≠ t := by omega
    simp only [va_up, this, if_false]
    exact h2 t' ht'
  · rcases hr with ⟨t', ht'⟩ | hk
    · have ht'' : va_up S.2.2.2.1 t v t' = some r := ht'
      by_cases e2 : t' = t
      · subst e2
        simp only [va_up, if_true] at ht''
        exact hv r ht''
      · simp only [va_up, e2, if_false] at ht''
        exact Or.inl ⟨t', ht''⟩
    · exact Or.inr hk
theorem wf_rs {S : Sg} (h : WF S) {r : Nat} {xs : List Int32} (hx : rOK ((S.2.2.2.2.2 r).1, xs)) : WF (s_rs S r xs) := by
  obtain ⟨h1, h2, h3, h4, h5⟩ := h
  refine ⟨h1, h2, h3, fun q hq => ?_, fun q hq => ?_⟩
  · show q < 24 ∧ rOK (va_up S.2.2.2.2.2 r ((S.2.2.2.2.2 r).1, xs) q)
    by_cases e : q = r
    · subst e
      refine ⟨(h4 q hq).1, ?_⟩
      simp only [va_up, if_true]
      exact hx
    · simp only [va_up, e, if_false]
      exact h4 q hq
  · show (va_up S.2.2.2.2.2 r ((S.2.2.2.2.2 r).1, xs) q).1 = 0
    by_cases e : q = r
    · subst e
      simp only [va_up, if_true]
      exact h5 q hq
    · simp only [va_up, e, if_false]
      exact h5 q hq
/-- rows of a sort keep their sort's range -/
def hiOf (kd : Int32) : Int := if kd = 0 then 65535 else if kd = 1 then 1114111 else 255
theorem rOK.rng {x : Int32 × List Int32} (h : rOK x) : rng (hiOf x.1) x.2 := by
  rcases h with h | h | h <;> rw [h.1] <;> exact h.2.2
theorem rOK.kd {x : Int32 × List Int32} (h : rOK x) : x.1 = 0 ∨ x.1 = 1 ∨ x.1 = 2 := by
  rcases h with h | h | h
  · exact Or.inl h.1
  · exact Or.inr (Or.inl h.1)
  · exact Or.inr (Or.inr h.1)
theorem rOK_mk {kd : Int32} {xs : List Int32} (hk : kd = 0 ∨ kd = 1 ∨ kd = 2) (hl : xs.length ≤ if kd = 2 then 240 else 60) (hr : rng (hiOf kd) xs) : rOK (kd, xs) := by
  rcases hk with h | h | h <;> subst h
  · exact Or.inl ⟨rfl, by simpa using hl, hr⟩
  · exact Or.inr (Or.inl ⟨rfl, by simpa using hl, hr⟩)
  · exact Or.inr (Or.inr ⟨rfl, by simpa using hl, hr⟩)
theorem rOK.lenk {x : Int32 × List Int32} (h : rOK x) : x.2.length ≤ if x.1 = 2 then 240 else 60 := by
  rcases h with h | h | h <;> rw [h.1] <;> simpa using h.2.1
theorem pl_rng {x : Int32 × List Int32} (h : rOK x) (h2 : x.1 ≠ 2) : rng 1114111 (u_pl x.1 x.2) := by
  unfold u_pl
  rcases h with h | h | h
  · rw [if_pos h.1]; exact pts_rng h.2.2
  · rw [if_neg (by rw [h.1]; decide)]; exact h.2.2
  · exact absurd h.1 h2
theorem ul_rng {x : Int32 × List Int32} (h : rOK x) (h2 : x.1 ≠ 2) : rng 65535 (u_ul x.1 x.2) := by
  unfold u_ul
  rcases h with h | h | h
  · rw [if_pos (by rw [h.1]; decide)]; exact h.2.2
  · rw [if_neg (not_not_intro h.1)]; exact rng_fm h.2.2 (fun x hx => units_rng hx)
  · exact absurd h.1 h2
theorem rng_sub {a : Int} {xs ys : List Int32} (h : rng a xs) (hs : ∀ v ∈ ys, v ∈ xs) : rng a ys := fun v hv => h v (hs v hv)
/-- p bytes long: what the class calls a point from bytes lies in its range -/
theorem told_rng {p : Int32} {n : Nat} (h0 : 1 ≤ n) (hn : n ≤ 4) (hp0 : 0 ≤ p.toInt) (hp : n ≤ 3 → p.toInt ≤ 65535) (h : j_told p (nI n)) : 0 ≤ p.toInt ∧ p.toInt ≤ 1114111 := by
  rcases (told_iff hn h0).mp h with q | q | q
  · have := hp (by omega); omega
  · have := hp (by omega); omega
  · have h1 := q.2.2
    rw [i_le, i_lt, show (1114111 : Int32).toInt = 1114111 from rfl] at h1
    omega
theorem pow64 : ∀ c : Nat, (1 : Int) ≤ 64 ^ c
  | 0 => by simp
  | c + 1 => by
    have := pow64 c
    rw [Int.pow_succ]
    omega
theorem mul64 {y : Int} (c : Nat) (h : 0 ≤ y) : y ≤ y * 64 ^ c := by
  have h1 := Int.mul_le_mul_of_nonneg_left (pow64 c) h
  rw [Int.mul_one] at h1
  exact h1
theorem pfl_bound {xs : List Int32} {lim : Int32} {len : Nat} : ∀ (q m : Nat) (p : Int32) (b : Int) (c : Nat), nI (m + c) = lim → m + c ≤ 5760 → 0 ≤ p.toInt → p.toInt ≤ b → 0 ≤ b → (b + 1) * 64 ^ c ≤ 16777216 → ∀ r, j_pfl (lf xs) len lim q m p = some r → 0 ≤ r.toInt ∧ r.toInt < (b + 1) * 64 ^ c
  | 0, m, p, b, c, h1, hm, h2, h3, h3b, h4, r, h => by
    cases h
    refine ⟨h2, ?_⟩
    have := mul64 (y := b + 1) c (by omega)
    omega
  | q + 1, m, p, b, c, h1, hm, h2, h3, h3b, h4, r, h => by
    rw [j_pfl] at h
    by_cases hc : nI m < lim ∧ m < len
    · rw [if_pos hc] at h
      split at h
      · cases h
      · rename_i hn
        cases c with
        | zero =>
          have := hc.1
          rw [← h1, Nat.add_zero] at this
          exact absurd ((nI_ltI (by omega) (by omega)).mp this) (by omega)
        | succ c =>
          rw [not_or, i_lt, i_lt, show (128 : Int32).toInt = 128 from rfl, show (191 : Int32).toInt = 191 from rfl] at hn
          have e : (64 : Int) ^ (c + 1) = 64 ^ c * 64 := Int.pow_succ 64 c
          have h5 : (b + 1) * 64 ^ (c + 1) = (b * 64 + 63 + 1) * 64 ^ c := by
            rw [e, show b * 64 + 63 + 1 = (b + 1) * 64 by omega, Int.mul_comm (64 ^ c) 64, Int.mul_assoc]
          have hb : b * 64 + 64 ≤ 16777216 := by
            have h7 := mul64 (y := b * 64 + 63 + 1) c (by omega)
            omega
          have h64 : (p * 64).toInt = p.toInt * 64 := by
            rw [Int32.toInt_mul, show (64 : Int32).toInt = 64 from rfl, Int.bmod_eq_of_le] <;> omega
          have hs : (lf xs m - 128).toInt = (lf xs m).toInt - 128 := i_sub (by rw [show (128 : Int32).toInt = 128 from rfl]; omega) (by rw [show (128 : Int32).toInt = 128 from rfl]; omega)
          have hp : (p * 64 + (lf xs m - 128)).toInt = p.toInt * 64 + ((lf xs m).toInt - 128) := by
            rw [i_add (by omega) (by omega), h64, hs]
          rw [h5]
          exact pfl_bound q (m + 1) _ (b * 64 + 63) c (by rw [show m + 1 + c = m + (c + 1) by omega]; exact h1) (by omega) (by omega) (by omega) (by omega) (by omega) r h
    · rw [if_neg hc] at h
      cases h
      refine ⟨h2, ?_⟩
      have := mul64 (y := b + 1) c (by omega)
      omega
