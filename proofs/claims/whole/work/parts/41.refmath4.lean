theorem lc {a b : Nat} (ha : a < 2 ^ 63) (hb : b < 2 ^ 63) : (0 < lg_cmp (lN a) (lN b)) ↔ b < a := (lg_cmp_gt _ _).trans (pk_lLT hb ha)
theorem bey_yes {len i n : Nat} (hi : i < 2 ^ 31) (hn : n < 2 ^ 31) (h : len < i + n) : j_bey len (nI i) (nI n) := by
  unfold j_bey
  rw [nI_toInt hi, nI_toInt hn]
  omega
theorem bey_i {len : Nat} {i n : Int32} (h : i < 0) : j_bey len i n := Or.inl (by rw [i_lt, i_l0] at h; exact h)
theorem bey_n {len : Nat} {i n : Int32} (h : n < 0) : j_bey len i n := Or.inr (Or.inl (by rw [i_lt, i_l0] at h; exact h))
theorem rl_layD {xs : List Int32} {f : Nat → Int32} {i n : Nat} (h : i + n ≤ xs.length) : rl (itN (fun j f => upd f j (lf xs (i + j))) n f, n) = (xs.drop i).take n := by
  rw [rl_layN (φ := fun j => lf xs (i + j)), ← tk_drop h, List.map_eq_flatMap]
theorem rIt_copy {rs : Rws} {fI g : Nat → Int32} {r i j n : Nat} {xs : List Int32} (h : rIt rs fI) (hr : r < 24) (hi : i + n ≤ xs.length) (hj : j + n ≤ (rs r).2.length) (hg : ∀ k, k < n → g k = lf xs (i + k)) :
    rIt (va_up rs r ((rs r).1, (rs r).2.take j ++ ((xs.drop i).take n ++ (rs r).2.drop (j + n)))) (layN (240 * r + j) g n fI) := by
  intro q hq
  have hlen : ((rs r).2.take j ++ ((xs.drop i).take n ++ (rs r).2.drop (j + n))).length = (rs r).2.length := by
    simp
    omega
  by_cases e : q = r
  · subst e
    have e1 : va_up rs q ((rs q).1, (rs q).2.take j ++ ((xs.drop i).take n ++ (rs q).2.drop (j + n))) q = ((rs q).1, (rs q).2.take j ++ ((xs.drop i).take n ++ (rs q).2.drop (j + n))) := by simp [va_up]
    rw [e1]
    refine ⟨by rw [hlen]; exact (h q hq).1, fun k hk => ?_⟩
    rw [hlen] at hk
    have hc : va_cpy (lf xs) (lf (rs q).2) i j n = lf ((rs q).2.take j ++ ((xs.drop i).take n ++ (rs q).2.drop (j + n))) := by
      have q9 := e_list_cpy (cI := (default : ClassId)) hi hj
      have q8 := Sum.inl.inj q9
      have q7 := congrArg (fun x : ClassId × vp_A => x.2.2) q8
      exact Sum.inl.inj q7
    show _ = lf ((rs q).2.take j ++ ((xs.drop i).take n ++ (rs q).2.drop (j + n))) k
    rw [← hc]
    by_cases h1 : j ≤ k ∧ k < j + n
    · rw [pk_cpy_in h1.1 h1.2, show 240 * q + k = (240 * q + j) + (k - j) by omega, layN_in (by omega), hg _ (by omega)]
    · rw [pk_cpy_out (by omega), layN_out (by omega)]
      exact (h q hq).2 k hk
  · have e1 : va_up rs r ((rs r).1, (rs r).2.take j ++ ((xs.drop i).take n ++ (rs r).2.drop (j + n))) q = rs q := by simp [va_up, e]
    rw [e1]
    refine ⟨(h q hq).1, fun k hk => ?_⟩
    have := (h q hq).1
    have := (h r hr).1
    rw [layN_out (by omega)]
    exact (h q hq).2 k hk
theorem mb_rng (p : Int32) : True := trivial
theorem rl_tp480 {form : Int32} {X : Rw} {f : Nat → Int32} (h : X.2 * 4 ≤ 480) : rl (itN (fun k Y => if form = 3 then r_add 480 (X.1 k) Y else r_mb 480 (X.1 k) Y) X.2 (f, 0)) = (rl X).flatMap (u_tp form) := by
  rw [rl_itX (n := 480) (b := 4) (φ := u_tp form) (u_tp_le form) (fun k _ Y hY => ?_) (by show 0 + _ ≤ 480; omega)]
  · rfl
  · unfold u_tp at hY ⊢
    split
    · rename_i h2
      rw [if_pos h2] at hY
      simp only [List.length_cons, List.length_nil] at hY
      exact rl_add (by omega)
    · rename_i h2
      rw [if_neg h2] at hY
      exact rl_mb hY
