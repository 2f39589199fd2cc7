/-! Reading bytes: the point at a place, how many bytes it takes; the reading -/
def u_p (form : Int32) (xs : List Int32) (k : Nat) : Int32 := if form = 0 then j_pf (lf xs) xs.length k else if form = 3 then lf xs k else if k + 1 = xs.length then -1 else if form = 1 then lf xs k * 256 + lf xs (k + 1) else lf xs (k + 1) * 256 + lf xs k
def u_sz (form : Int32) (xs : List Int32) (k : Nat) : Nat := if form = 0 then (j_bc (lf xs k)).toNatClampNeg else if form = 3 then 1 else 2
def u_rd (form : Int32) (xs : List Int32) : Nat → Nat → List Int32 → Int32 × List Int32
  | 0, _, acc => (-1, acc)
  | m + 1, k, acc => if k < xs.length ∧ acc.length ≤ 60 then (if u_p form xs k = -1 then (nI k, acc) else u_rd form xs m (k + u_sz form xs k) (acc ++ u_units (u_p form xs k))) else (-1, acc)
def s_read (S : Sg) (t u form : Int32) : Int32 × Sg := if j_noText t ∨ j_noText u ∨ j_noForm form then (OUTS, S) else s_w1 S u (fun kd xs => if kd ≠ 2 then s_no S 2 else
  if (u_rd form xs xs.length 0 []).1 ≠ -1 then s_brk S (u_rd form xs xs.length 0 []).1 else if 60 < (u_rd form xs xs.length 0 []).2.length then s_no S 6 else s_mk S t.toNatClampNeg 0 (u_rd form xs xs.length 0 []).2)
theorem u_rd_out {form : Int32} {xs : List Int32} {m k : Nat} {acc : List Int32} (h : xs.length ≤ k ∨ 60 < acc.length) : u_rd form xs m k acc = (-1, acc) := by
  cases m with
  | zero => rfl
  | succ m => rw [u_rd, if_neg (by omega)]
theorem u_rd_bad {form : Int32} {xs : List Int32} {m k : Nat} {acc : List Int32} (h1 : k < xs.length) (h2 : acc.length ≤ 60) (h3 : u_p form xs k = -1) (hm : 0 < m) : u_rd form xs m k acc = (nI k, acc) := by
  cases m with
  | zero => omega
  | succ m => rw [u_rd, if_pos ⟨h1, h2⟩, if_pos h3]
theorem u_rd_go {form : Int32} {xs : List Int32} {m k : Nat} {acc : List Int32} (h1 : k < xs.length) (h2 : acc.length ≤ 60) (h3 : u_p form xs k ≠ -1) (hm : 0 < m) : u_rd form xs m k acc = u_rd form xs (m - 1) (k + u_sz form xs k) (acc ++ u_units (u_p form xs k)) := by
  cases m with
  | zero => omega
  | succ m => rw [u_rd, if_pos ⟨h1, h2⟩, if_neg h3]; rfl
theorem j_bc_nat (x : Int32) : ∃ n : Nat, n ≤ 4 ∧ j_bc x = nI n ∧ (j_bc x = 0 ↔ n = 0) := by
  unfold j_bc
  split
  · exact ⟨1, by omega, rfl, by decide⟩
  · split
    · exact ⟨0, by omega, rfl, by decide⟩
    · split
      · exact ⟨2, by omega, rfl, by decide⟩
      · split
        · exact ⟨3, by omega, rfl, by decide⟩
        · exact ⟨4, by omega, rfl, by decide⟩
theorem j_pf_bc {g : Nat → Int32} {len k : Nat} (h : j_pf g len k ≠ -1) : ¬ j_bc (g k) = 0 := fun q => by
  apply h
  rw [j_pf]
  split
  · rfl
  · rw [if_pos (Or.inl q)]
/-- the class's reading of many bytes, byte by byte -/
theorem rm_rd {n : Nat} {xs : List Int32} (hx : xs.length ≤ 240) (hn : 62 ≤ n) : ∀ (m k nx m' : Nat) (X : Rw), xs.length ≤ k + m → k ≤ nx → nx ≤ 5000 → xs.length ≤ nx + m' → (j_rm n (lf xs) xs.length m k (nI nx) X).1 = (u_rd 0 xs m' nx (rl X)).1 ∧ rl (j_rm n (lf xs) xs.length m k (nI nx) X).2 = (u_rd 0 xs m' nx (rl X)).2
  | 0, k, nx, m', X, h1, h2, h3, h4 => by
    rw [u_rd_out (Or.inl (by omega))]
    exact ⟨rfl, rfl⟩
  | m + 1, k, nx, m', X, h1, h2, h3, h4 => by
    by_cases hk : xs.length ≤ k
    · rw [j_rm_out (Or.inl hk), u_rd_out (Or.inl (by omega))]
      exact ⟨rfl, rfl⟩
    · by_cases hc : 60 < X.2
      · rw [j_rm_out (Or.inr hc), u_rd_out (Or.inr (by rw [rl_len]; exact hc))]
        exact ⟨rfl, rfl⟩
      · by_cases hs : k < nx
        · rw [j_rm_skip (by omega) (by omega) ((nI_ltI (by omega) (by omega)).mpr hs) (by omega)]
          exact rm_rd hx hn m (k + 1) nx m' X (by omega) (by omega) h3 h4
        · have e : nx = k := by omega
          subst e
          have hns : ¬ nI nx < nI nx := fun q => absurd ((nI_ltI (by omega) (by omega)).mp q) (by omega)
          have hp : u_p 0 xs nx = j_pf (lf xs) xs.length nx := by rw [u_p, if_pos rfl]
          by_cases hb : j_pf (lf xs) xs.length nx = -1
          · rw [j_rm_bad (by omega) (by omega) hns hb (by omega), u_rd_bad (by omega) (by rw [rl_len]; omega) (by rw [hp]; exact hb) (by omega)]
            exact ⟨rfl, rfl⟩
          · rw [j_rm_go (by omega) (by omega) hns hb (by omega), u_rd_go (by omega) (by rw [rl_len]; omega) (by rw [hp]; exact hb) (by omega)]
            obtain ⟨b, hb1, hb2, hb3⟩ := j_bc_nat (lf xs nx)
            have hb0 : b ≠ 0 := fun q => j_pf_bc hb (hb3.mpr q)
            have hsz : u_sz 0 xs nx = b := by rw [u_sz, if_pos rfl, hb2, nI_clamp (by omega)]
            have hu := u_units_le (j_pf (lf xs) xs.length nx)
            rw [hb2, nI_add, hsz, hp, ← rl_uni (n := n) (by omega)]
            exact rm_rd hx hn m (nx + 1) (nx + b) (m' - 1) _ (by omega) (by omega) (by omega) (by omega)
theorem by_rng {xs : List Int32} (h : ∀ v ∈ xs, 0 ≤ v.toInt ∧ v.toInt ≤ 255) {k : Nat} (hk : k < xs.length) : 0 ≤ (lf xs k).toInt ∧ (lf xs k).toInt ≤ 255 := by
  have e : lf xs k = xs[k] := by simp [lf, hk]
  rw [e]
  exact h _ (List.getElem_mem hk)
theorem two_rng {a b : Int32} (ha : 0 ≤ a.toInt ∧ a.toInt ≤ 255) (hb : 0 ≤ b.toInt ∧ b.toInt ≤ 255) : (a * 256 + b).toInt = a.toInt * 256 + b.toInt := by
  have e : (256 : Int32).toInt = 256 := rfl
  have h1 : (a * 256).toInt = a.toInt * 256 := by rw [Int32.toInt_mul, e, Int.bmod_eq_of_le] <;> omega
  rw [i_add (by omega) (by omega), h1]
theorem small_units {p : Int32} (h : 0 ≤ p.toInt ∧ p.toInt ≤ 65535) : u_units p = [p] ∧ p ≠ -1 := by
  constructor
  · rw [u_units, if_pos]
    rw [i_lt]
    have e : (65536 : Int32).toInt = 65536 := rfl
    omega
  · intro q
    rw [q] at h
    have e : (-1 : Int32).toInt = -1 := rfl
    omega
theorem r2_rd {n : Nat} {xs : List Int32} {form : Int32} (hx : xs.length ≤ 240) (hn : 62 ≤ n) (hr : ∀ v ∈ xs, 0 ≤ v.toInt ∧ v.toInt ≤ 255) (h0 : form ≠ 0) (h3 : form ≠ 3) : ∀ (m k m' : Nat) (X : Rw), xs.length ≤ k + m → xs.length ≤ k + m' → (j_r2 n (lf xs) xs.length form m k X).1 = (u_rd form xs m' k (rl X)).1 ∧ rl (j_r2 n (lf xs) xs.length form m k X).2 = (u_rd form xs m' k (rl X)).2
  | 0, k, m', X, h1, h4 => by
    rw [u_rd_out (Or.inl (by omega))]
    exact ⟨rfl, rfl⟩
  | m + 1, k, m', X, h1, h4 => by
    by_cases hk : xs.length ≤ k
    · rw [j_r2_out (Or.inl hk), u_rd_out (Or.inl (by omega))]
      exact ⟨rfl, rfl⟩
    · by_cases hc : 60 < X.2
      · rw [j_r2_out (Or.inr hc), u_rd_out (Or.inr (by rw [rl_len]; exact hc))]
        exact ⟨rfl, rfl⟩
      · by_cases he : k + 1 = xs.length
        · rw [j_r2_end (by omega) (by omega) he (by omega), u_rd_bad (by omega) (by rw [rl_len]; omega) (by rw [u_p, if_neg h0, if_neg h3, if_pos he]) (by omega)]
          exact ⟨rfl, rfl⟩
        · have hp : u_p form xs k = (if form = 1 then lf xs k else lf xs (k + 1)) * 256 + (if form = 1 then lf xs (k + 1) else lf xs k) := by
            rw [u_p, if_neg h0, if_neg h3, if_neg he]
            split <;> rfl
          have ha := by_rng hr (k := k) (by omega)
          have hb := by_rng hr (k := k + 1) (by omega)
          have hu : u_units (u_p form xs k) = [u_p form xs k] ∧ u_p form xs k ≠ -1 := by
            apply small_units
            rw [hp]
            split
            · rw [two_rng ha hb]; omega
            · rw [two_rng hb ha]; omega
          rw [j_r2_go (by omega) (by omega) he (by omega), u_rd_go (by omega) (by rw [rl_len]; omega) hu.2 (by omega), hu.1, hp, ← rl_add (n := n) (by omega)]
          have hsz : u_sz form xs k = 2 := by rw [u_sz, if_neg h0, if_neg h3]
          rw [hsz]
          exact r2_rd hx hn hr h0 h3 m (k + 2) (m' - 1) _ (by omega) (by omega)
/-- a byte a unit: all of them, or one too many -/
theorem r1_rd {xs : List Int32} (hr : ∀ v ∈ xs, 0 ≤ v.toInt ∧ v.toInt ≤ 255) : ∀ (m k : Nat) (acc : List Int32), xs.length ≤ k + m → acc.length = min k 61 → acc = xs.take acc.length → (u_rd 3 xs m k acc).1 = -1 ∧ (60 < (u_rd 3 xs m k acc).2.length ↔ 60 < xs.length ∨ 60 < acc.length) ∧ (xs.length ≤ 60 → k ≤ xs.length → (u_rd 3 xs m k acc).2 = xs)
  | 0, k, acc, h1, h2, h3 => by
    refine ⟨rfl, ?_, fun h4 h5 => ?_⟩
    · show 60 < acc.length ↔ _
      have := congrArg List.length h3
      rw [List.length_take] at this
      omega
    · show acc = xs
      rw [h3, List.take_of_length_le (by omega)]
  | m + 1, k, acc, h1, h2, h3 => by
    have hl := congrArg List.length h3
    rw [List.length_take] at hl
    by_cases hk : xs.length ≤ k
    · rw [u_rd_out (Or.inl hk)]
      refine ⟨rfl, ?_, fun h4 h5 => ?_⟩
      · show 60 < acc.length ↔ _
        omega
      · show acc = xs
        rw [h3, List.take_of_length_le (by omega)]
    · by_cases hc : 60 < acc.length
      · rw [u_rd_out (Or.inr hc)]
        refine ⟨rfl, ?_, fun h4 h5 => ?_⟩
        · show 60 < acc.length ↔ _
          omega
        · omega
      · have hp : u_p 3 xs k = lf xs k := by rw [u_p, if_neg (by decide), if_pos rfl]
        have ha := by_rng hr (k := k) (by omega)
        have hu := small_units (p := lf xs k) (by omega)
        have hsz : u_sz 3 xs k = 1 := by rw [u_sz, if_neg (by decide), if_pos rfl]
        rw [u_rd_go (by omega) (by omega) (by rw [hp]; exact hu.2) (by omega), hp, hu.1, hsz]
        have hacc : (acc ++ [lf xs k]).length = acc.length + 1 := by simp
        have ih := r1_rd hr (m + 1 - 1) (k + 1) (acc ++ [lf xs k]) (by omega) (by omega) (by
          rw [hacc, show acc.length + 1 = k + 1 by omega, List.take_succ, show xs.take k = acc from by rw [h3, show acc.length = k by omega]]
          simp [lf, show k < xs.length by omega])
        refine ⟨ih.1, ?_, fun h4 h5 => ih.2.2 h4 (by omega)⟩
        rw [ih.2.1, hacc]
        omega
theorem ru_rd {xs : List Int32} {form : Int32} {X : Rw} (hx : xs.length ≤ 240) (hr : ∀ v ∈ xs, 0 ≤ v.toInt ∧ v.toInt ≤ 255) :
    (j_ru 240 (lf xs) xs.length form X).1 = (u_rd form xs xs.length 0 []).1 ∧ (60 < (j_ru 240 (lf xs) xs.length form X).2.2 ↔ 60 < (u_rd form xs xs.length 0 []).2.length) ∧ ((j_ru 240 (lf xs) xs.length form X).2.2 ≤ 60 → rl (j_ru 240 (lf xs) xs.length form X).2 = (u_rd form xs xs.length 0 []).2) := by
  unfold j_ru
  by_cases h0 : form = 0
  · rw [if_pos h0]
    subst h0
    obtain ⟨h1, h2⟩ := rm_rd (n := 240) hx (by omega) xs.length 0 0 xs.length (r_nil X) (by omega) (by omega) (by omega) (by omega)
    rw [rl_nil] at h1 h2
    refine ⟨h1, ?_, fun _ => h2⟩
    rw [← h2, rl_len]
    exact Iff.rfl
  · rw [if_neg h0]
    by_cases h3 : form = 3
    · rw [if_pos h3]
      subst h3
      obtain ⟨h1, h2, h4⟩ := r1_rd hr xs.length 0 [] (by omega) rfl rfl
      have h5 : rl (r_all 240 (lf xs) xs.length (r_nil X)) = xs := by rw [rl_all (by rw [r_nil]; omega), rl_nil, List.nil_append]
      have h6 := rl_cnt h5
      refine ⟨h1.symm, ?_, fun q => ?_⟩
      · rw [h2]
        show 60 < (r_all 240 (lf xs) xs.length (r_nil X)).2 ↔ _
        rw [h6]
        simp
      · show rl (r_all 240 (lf xs) xs.length (r_nil X)) = _
        rw [h5]
        have q' : (r_all 240 (lf xs) xs.length (r_nil X)).2 ≤ 60 := q
        exact (h4 (by omega) (by omega)).symm
    · rw [if_neg h3]
      obtain ⟨h1, h2⟩ := r2_rd (n := 240) hx (by omega) hr h0 h3 xs.length 0 xs.length (r_nil X) (by omega) (by omega)
      rw [rl_nil] at h1 h2
      refine ⟨h1, ?_, fun _ => h2⟩
      rw [← h2, rl_len]
