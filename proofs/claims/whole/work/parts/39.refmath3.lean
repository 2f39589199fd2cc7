theorem lay_val {φ : Nat → Int32} {f : Nat → Int32} : ∀ (k j : Nat), j < k → itN (fun j f => upd f j (φ j)) k f j = φ j
  | 0, _, h => by omega
  | k + 1, j, h => by
    show upd (itN (fun j f => upd f j (φ j)) k f) k (φ k) j = _
    by_cases e : j = k
    · subst e; exact pk_us
    · rw [pk_un e]; exact lay_val k j (by omega)
theorem rl_layN {φ : Nat → Int32} {f : Nat → Int32} {n : Nat} : rl (itN (fun j f => upd f j (φ j)) n f, n) = (List.range n).map φ := by
  unfold rl
  exact List.map_congr_left (fun k hk => lay_val n k (List.mem_range.mp hk))
theorem rl_layX {φ : Int32 → Int32} {f : Nat → Int32} {X : Rw} : rl (itN (fun j f => upd f j (φ (X.1 j))) X.2 f, X.2) = (rl X).map φ := by
  rw [rl_layN (φ := fun j => φ (X.1 j))]
  unfold rl
  rw [List.map_map]
  rfl
theorem rl_layL {φ : Int32 → Int32} {f : Nat → Int32} {xs : List Int32} : rl (itN (fun j f => upd f j (φ (lf xs j))) xs.length f, xs.length) = xs.map φ := by
  rw [rl_layN (φ := fun j => φ (lf xs j))]
  have h := congrArg (List.map φ) (tk_lf xs)
  rw [List.map_map] at h
  exact h
theorem and_self16 {x : Int32} (h : 0 ≤ x.toInt ∧ x.toInt ≤ 65535) : x &&& 65535 = x := by
  obtain ⟨n, hn, rfl⟩ := nI_of (x := x) (by rw [i_lt, i_l0]; omega)
  rw [nI_toInt hn] at h
  rw [pk_andN (by omega) 16 (by decide), Nat.mod_eq_of_lt (by omega)]
theorem map_and16 {xs : List Int32} (h : ∀ v ∈ xs, 0 ≤ v.toInt ∧ v.toInt ≤ 65535) : xs.map (fun x => x &&& 65535) = xs := by
  have := List.map_congr_left (l := xs) (f := fun x => x &&& 65535) (g := id) (fun x hx => and_self16 (h x hx))
  rw [this, List.map_id]
theorem rOK.two {x : Int32 × List Int32} (h : rOK x) (h0 : x.1 ≠ 0) (h1 : x.1 ≠ 1) : x.1 = 2 := by
  rcases h with h | h | h
  · exact absurd h.1 h0
  · exact absurd h.1 h1
  · exact h.1
theorem upS0 (rs : Rws) (r : Nat) (xs : List Int32) : (fun r => (rs r).1) = fun q => (va_up rs r ((rs r).1, xs) q).1 := by
  funext j
  by_cases h : j = r
  · subst h; simp [va_up]
  · simp [va_up, h]
theorem upM0 (rs : Rws) (r : Nat) (xs : List Int32) (h : xs.length = (rs r).2.length) : (fun r => nI (rs r).2.length) = fun q => nI (va_up rs r ((rs r).1, xs) q).2.length := by
  funext j
  by_cases e : j = r
  · subst e; simp [va_up, h]
  · simp [va_up, e]
theorem way0 {y : Int32} (h : ¬ j_noWay y) (h1 : ¬ y = 1) : y = 0 := Decidable.by_contra (fun q => h ⟨q, h1⟩)
theorem form03 {f : Int32} (h : ¬ j_noForm f) (h1 : ¬ f = 1) (h2 : ¬ f = 2) (h0 : ¬ f = 0) : f = 3 := by
  unfold j_noForm at h
  rw [← Int32.toInt_inj] at h1 h2 h0 ⊢
  rw [i_lt, i_lt, i_l0, show (3 : Int32).toInt = 3 from rfl] at h
  rw [show (1 : Int32).toInt = 1 from rfl] at h1
  rw [show (2 : Int32).toInt = 2 from rfl] at h2
  rw [i_l0] at h0
  rw [show (3 : Int32).toInt = 3 from rfl]
  omega
theorem lf_app {xs ys : List Int32} {k : Nat} : lf (xs ++ ys) k = if k < xs.length then lf xs k else lf ys (k - xs.length) := by
  unfold lf
  simp only [List.getD_eq_getElem?_getD]
  split
  · rename_i h; rw [List.getElem?_append_left h]
  · rename_i h; rw [List.getElem?_append_right (by omega)]
theorem r_add_c1 {n : Nat} {x : Int32} {Y : Rw} : (r_add n x Y).2 ≤ Y.2 + 1 := by unfold r_add; split <;> simp
theorem r_mb_c4 {n : Nat} {p : Int32} {Y : Rw} : (r_mb n p Y).2 ≤ Y.2 + 4 := by
  unfold r_mb
  split
  · have := r_add_c1 (n := n) (x := p) (Y := Y); omega
  · split
    · have a := r_add_c1 (n := n) (x := 192 + p / 64) (Y := Y)
      have b := r_add_c1 (n := n) (x := 128 + (p - p / 64 * 64)) (Y := r_add n (192 + p / 64) Y)
      omega
    · split
      · have a := r_add_c1 (n := n) (x := 224 + p / 4096) (Y := Y)
        have b := r_add_c1 (n := n) (x := 128 + (p / 64 - p / 64 / 64 * 64)) (Y := r_add n (224 + p / 4096) Y)
        have c := r_add_c1 (n := n) (x := 128 + (p - p / 64 * 64)) (Y := r_add n (128 + (p / 64 - p / 64 / 64 * 64)) (r_add n (224 + p / 4096) Y))
        omega
      · have a := r_add_c1 (n := n) (x := 240 + p / 262144) (Y := Y)
        have b := r_add_c1 (n := n) (x := 128 + (p / 4096 - p / 4096 / 64 * 64)) (Y := r_add n (240 + p / 262144) Y)
        have c := r_add_c1 (n := n) (x := 128 + (p / 64 - p / 64 / 64 * 64)) (Y := r_add n (128 + (p / 4096 - p / 4096 / 64 * 64)) (r_add n (240 + p / 262144) Y))
        have d := r_add_c1 (n := n) (x := 128 + (p - p / 64 * 64)) (Y := r_add n (128 + (p / 64 - p / 64 / 64 * 64)) (r_add n (128 + (p / 4096 - p / 4096 / 64 * 64)) (r_add n (240 + p / 262144) Y)))
        omega
theorem it_cnt {F : Nat → Rw → Rw} {b : Nat} (hF : ∀ k Y, (F k Y).2 ≤ Y.2 + b) : ∀ (k : Nat) (Y : Rw), (itN F k Y).2 ≤ Y.2 + k * b
  | 0, Y => by simp [itN]
  | k + 1, Y => by
    have h1 := hF k (itN F k Y)
    have h2 := it_cnt hF k Y
    rw [Nat.succ_mul]
    show (F k (itN F k Y)).2 ≤ _
    omega
theorem itT_cnt {form : Int32} {X : Rw} {f : Nat → Int32} (k : Nat) : (itN (fun k Y => r_tu1 480 form (X.1 k) Y) k (f, 0)).2 ≤ k * 2 := by
  have h := it_cnt (F := fun k Y => r_tu1 480 form (X.1 k) Y) (b := 2) (fun k Y => by
    unfold r_tu1
    have a := r_add_c1 (n := 480) (x := if form = 1 then X.1 k / 256 else X.1 k - X.1 k / 256 * 256) (Y := Y)
    have b := r_add_c1 (n := 480) (x := if form = 1 then X.1 k - X.1 k / 256 * 256 else X.1 k / 256) (Y := r_add 480 (if form = 1 then X.1 k / 256 else X.1 k - X.1 k / 256 * 256) Y)
    omega) k (f, 0)
  simp only at h
  omega
theorem itB_cnt {form : Int32} {X : Rw} {f : Nat → Int32} (k : Nat) : (itN (fun k Y => if form = 3 then r_add 480 (X.1 k) Y else r_mb 480 (X.1 k) Y) k (f, 0)).2 ≤ k * 4 := by
  have h := it_cnt (F := fun k Y => if form = 3 then r_add 480 (X.1 k) Y else r_mb 480 (X.1 k) Y) (b := 4) (fun k Y => by
    split
    · have := r_add_c1 (n := 480) (x := X.1 k) (Y := Y); omega
    · exact r_mb_c4) k (f, 0)
  simp only at h
  omega
theorem rl_eta (X : Rw) : rl (X.1, X.2) = rl X := rfl
