/-! Every call keeps the state well formed -/
def rng (hi : Int) (xs : List Int32) : Prop := ∀ v ∈ xs, 0 ≤ v.toInt ∧ v.toInt ≤ hi
theorem rng_mono {a b : Int} {xs : List Int32} (h : rng a xs) (hab : a ≤ b) : rng b xs := fun v hv => ⟨(h v hv).1, by have := (h v hv).2; omega⟩
theorem rng_nil {a : Int} : rng a [] := fun _ h => absurd h List.not_mem_nil
theorem rng_app {a : Int} {xs ys : List Int32} (h : rng a xs) (h2 : rng a ys) : rng a (xs ++ ys) := fun v hv => (List.mem_append.mp hv).elim (h v) (h2 v)
theorem rng_cons {a : Int} {x : Int32} {xs : List Int32} (h : 0 ≤ x.toInt ∧ x.toInt ≤ a) (h2 : rng a xs) : rng a (x :: xs) := fun v hv => (List.mem_cons.mp hv).elim (fun e => by rw [e]; exact h) (h2 v)
theorem rng_fm {a b : Int} {φ : Int32 → List Int32} {xs : List Int32} (h : rng a xs) (hφ : ∀ x, 0 ≤ x.toInt ∧ x.toInt ≤ a → rng b (φ x)) : rng b (xs.flatMap φ) := fun v hv => by
  obtain ⟨x, hx, hv2⟩ := List.mem_flatMap.mp hv
  exact hφ x (h x hx) v hv2
theorem rng_map {a b : Int} {f : Int32 → Int32} {xs : List Int32} (h : rng a xs) (hf : ∀ x, 0 ≤ x.toInt ∧ x.toInt ≤ a → 0 ≤ (f x).toInt ∧ (f x).toInt ≤ b) : rng b (xs.map f) := fun v hv => by
  obtain ⟨x, hx, rfl⟩ := List.mem_map.mp hv
  exact hf x (h x hx)
theorem rng_lf {a : Int} {xs : List Int32} (h : rng a xs) {k : Nat} (hk : k < xs.length) : 0 ≤ (lf xs k).toInt ∧ (lf xs k).toInt ≤ a := by
  have e : lf xs k = xs[k] := by simp [lf, hk]
  rw [e]
  exact h _ (List.getElem_mem hk)
theorem nn_of {x : Int32} (h : 0 ≤ x.toInt) : ∃ n : Nat, n < 2 ^ 31 ∧ x = nI n := nI_of (by rw [i_lt, i_l0]; omega)
theorem units_rng {p : Int32} (h : 0 ≤ p.toInt ∧ p.toInt ≤ 1114111) : rng 65535 (u_units p) := by
  obtain ⟨n, hn, rfl⟩ := nn_of h.1
  rw [nI_toInt hn] at h
  unfold u_units
  split
  · rename_i h1
    have h2 := (nI_ltI (a := n) (b := 65536) (by omega) (by omega)).mp h1
    exact rng_cons (by rw [nI_toInt hn]; omega) rng_nil
  · rename_i h1
    have h2 : 65536 ≤ n := by
      rcases Nat.lt_or_ge n 65536 with q | q
      · exact absurd ((nI_ltI (a := n) (b := 65536) (by omega) (by omega)).mpr q) h1
      · exact q
    have e1 : nI n - 65536 = nI (n - 65536) := pk_sub (a := n) (b := 65536) h2
    have e2 : nI (n - 65536) / 1024 = nI ((n - 65536) / 1024) := pk_div (a := n - 65536) (d := 1024) (by omega) (by omega) (by omega)
    have e3 : nI ((n - 65536) / 1024) * 1024 = nI ((n - 65536) / 1024 * 1024) := pk_mul _ 1024
    rw [e1, e2, e3, pk_sub (by omega), show (55296 : Int32) + nI ((n - 65536) / 1024) = nI (55296 + (n - 65536) / 1024) from nI_add 55296 _, show (56320 : Int32) + nI (n - 65536 - (n - 65536) / 1024 * 1024) = nI (56320 + (n - 65536 - (n - 65536) / 1024 * 1024)) from nI_add 56320 _]
    exact rng_cons (by rw [nI_toInt (by omega)]; omega) (rng_cons (by rw [nI_toInt (by omega)]; omega) rng_nil)
theorem pair_rng {a b : Int32} (ha : j_high a) (hb : j_low b) : 0 ≤ (65536 + (a - 55296) * 1024 + (b - 56320)).toInt ∧ (65536 + (a - 55296) * 1024 + (b - 56320)).toInt ≤ 1114111 := by
  obtain ⟨x, hx, rfl⟩ := hi_nat ha
  obtain ⟨y, hy, rfl⟩ := lo_nat hb
  have e1 : nI (55296 + x) - 55296 = nI x := by
    have := pk_sub (a := 55296 + x) (b := 55296) (by omega)
    rw [show 55296 + x - 55296 = x by omega] at this
    exact this
  have e2 : nI (56320 + y) - 56320 = nI y := by
    have := pk_sub (a := 56320 + y) (b := 56320) (by omega)
    rw [show 56320 + y - 56320 = y by omega] at this
    exact this
  have h1 : nI x * 1024 = nI (x * 1024) := pk_mul x 1024
  have h2 : (65536 : Int32) + nI (x * 1024) = nI (65536 + x * 1024) := nI_add 65536 (x * 1024)
  rw [e1, e2, h1, h2, nI_add, nI_toInt (by omega)]
  omega
theorem pts_rng : ∀ {xs : List Int32}, rng 65535 xs → rng 1114111 (u_pts xs)
  | [], _ => rng_nil
  | [a], h => rng_mono h (by omega)
  | a :: b :: l, h => by
    rw [u_pts]
    split
    · rename_i hp
      exact rng_cons (pair_rng hp.1 hp.2) (pts_rng (fun v hv => h v (List.mem_cons_of_mem _ (List.mem_cons_of_mem _ hv))))
    · have ha := h a List.mem_cons_self
      exact rng_cons (by omega) (pts_rng (fun v hv => h v (List.mem_cons_of_mem _ hv)))
theorem mask_rng (x : Int32) : 0 ≤ (x &&& 65535).toInt ∧ (x &&& 65535).toInt ≤ 65535 := by
  rw [pk_and x 16 (by decide), nI_toInt (by have := Nat.mod_lt x.toBitVec.toNat (show 0 < 2 ^ 16 by decide); omega)]
  have := Nat.mod_lt x.toBitVec.toNat (show 0 < 2 ^ 16 by decide)
  omega
theorem mask_rng8 (x : Int32) : 0 ≤ (x &&& 255).toInt ∧ (x &&& 255).toInt ≤ 255 := by
  rw [pk_and x 8 (by decide), nI_toInt (by have := Nat.mod_lt x.toBitVec.toNat (show 0 < 2 ^ 8 by decide); omega)]
  have := Nat.mod_lt x.toBitVec.toNat (show 0 < 2 ^ 8 by decide)
  omega
theorem case_rng {x : Int32} {b : Int} (hb : 376 ≤ b) (h : 0 ≤ x.toInt ∧ x.toInt ≤ b) : (0 ≤ (j_gr x).toInt ∧ (j_gr x).toInt ≤ b) ∧ (0 ≤ (j_le x).toInt ∧ (j_le x).toInt ≤ b) := by
  have e32 : (32 : Int32).toInt = 32 := rfl
  constructor
  · unfold j_gr
    split
    · rename_i hc
      simp only [i_le, i_lt, show (97 : Int32).toInt = 97 from rfl, show (122 : Int32).toInt = 122 from rfl, show (224 : Int32).toInt = 224 from rfl, show (254 : Int32).toInt = 254 from rfl] at hc
      rw [i_sub (by omega) (by omega)]
      omega
    · split
      · rw [show (376 : Int32).toInt = 376 from rfl]; omega
      · exact h
  · unfold j_le
    split
    · rename_i hc
      simp only [i_le, i_lt, show (65 : Int32).toInt = 65 from rfl, show (90 : Int32).toInt = 90 from rfl, show (192 : Int32).toInt = 192 from rfl, show (222 : Int32).toInt = 222 from rfl] at hc
      rw [i_add (by omega) (by omega)]
      omega
    · split
      · rw [show (255 : Int32).toInt = 255 from rfl]; omega
      · exact h
theorem tu_rng {form x : Int32} (h : 0 ≤ x.toInt ∧ x.toInt ≤ 65535) : rng 255 (u_tu form x) := by
  obtain ⟨n, hn, rfl⟩ := nn_of h.1
  rw [nI_toInt hn] at h
  have e1 : nI n / 256 = nI (n / 256) := pk_div (a := n) (d := 256) (by omega) (by omega) (by omega)
  have e2 : nI (n / 256) * 256 = nI (n / 256 * 256) := pk_mul _ 256
  have a1 : 0 ≤ (nI n / 256).toInt ∧ (nI n / 256).toInt ≤ 255 := by rw [e1, nI_toInt (by omega)]; omega
  have a2 : 0 ≤ (nI n - nI n / 256 * 256).toInt ∧ (nI n - nI n / 256 * 256).toInt ≤ 255 := by rw [e1, e2, pk_sub (by omega), nI_toInt (by omega)]; omega
  unfold u_tu
  split
  · exact rng_cons a1 (rng_cons a2 rng_nil)
  · exact rng_cons a2 (rng_cons a1 rng_nil)
theorem mb_rng2 {p : Int32} (h : 0 ≤ p.toInt ∧ p.toInt ≤ 1114111) : rng 255 (u_mb p) := by
  obtain ⟨n, hn, rfl⟩ := nn_of h.1
  rw [nI_toInt hn] at h
  have lt : ∀ c : Nat, c < 2 ^ 31 → ((nI n < nI c) ↔ n < c) := fun c hc => nI_ltI hn hc
  have d : ∀ c : Nat, 0 < c → c < 2 ^ 31 → nI n / nI c = nI (n / c) := fun c h0 hc => pk_div hn h0 hc
  have r64 : ∀ k : Nat, k < 2 ^ 31 → nI k - nI k / 64 * 64 = nI (k % 64) := fun k hk => pk_rem (a := k) (d := 64) hk (by omega) (by omega)
  have c128 : ∀ k : Nat, k < 64 → 0 ≤ ((128 : Int32) + nI k).toInt ∧ ((128 : Int32) + nI k).toInt ≤ 255 := fun k hk => by
    rw [show (128 : Int32) + nI k = nI (128 + k) from nI_add 128 k, nI_toInt (by omega)]; omega
  have t0 : 0 ≤ ((128 : Int32) + (nI n - nI n / 64 * 64)).toInt ∧ ((128 : Int32) + (nI n - nI n / 64 * 64)).toInt ≤ 255 := by rw [r64 n hn]; exact c128 _ (by omega)
  have t1 : 0 ≤ ((128 : Int32) + (nI n / 64 - nI n / 64 / 64 * 64)).toInt ∧ ((128 : Int32) + (nI n / 64 - nI n / 64 / 64 * 64)).toInt ≤ 255 := by
    rw [show nI n / 64 = nI (n / 64) from d 64 (by omega) (by omega), r64 _ (by omega)]; exact c128 _ (by omega)
  have t2 : 0 ≤ ((128 : Int32) + (nI n / 4096 - nI n / 4096 / 64 * 64)).toInt ∧ ((128 : Int32) + (nI n / 4096 - nI n / 4096 / 64 * 64)).toInt ≤ 255 := by
    rw [show nI n / 4096 = nI (n / 4096) from d 4096 (by omega) (by omega), r64 _ (by omega)]; exact c128 _ (by omega)
  unfold u_mb
  split
  · rename_i h1
    have := (lt 128 (by omega)).mp h1
    exact rng_cons (by rw [nI_toInt hn]; omega) rng_nil
  · split
    · rename_i h1
      have := (lt 2048 (by omega)).mp h1
      refine rng_cons ?_ (rng_cons t0 rng_nil)
      rw [show nI n / 64 = nI (n / 64) from d 64 (by omega) (by omega), show (192 : Int32) + nI (n / 64) = nI (192 + n / 64) from nI_add 192 _, nI_toInt (by omega)]
      omega
    · split
      · rename_i h1
        have := (lt 65536 (by omega)).mp h1
        refine rng_cons ?_ (rng_cons t1 (rng_cons t0 rng_nil))
        rw [show nI n / 4096 = nI (n / 4096) from d 4096 (by omega) (by omega), show (224 : Int32) + nI (n / 4096) = nI (224 + n / 4096) from nI_add 224 _, nI_toInt (by omega)]
        omega
      · refine rng_cons ?_ (rng_cons t2 (rng_cons t1 (rng_cons t0 rng_nil)))
        rw [show nI n / 262144 = nI (n / 262144) from d 262144 (by omega) (by omega), show (240 : Int32) + nI (n / 262144) = nI (240 + n / 262144) from nI_add 240 _, nI_toInt (by omega)]
        omega
