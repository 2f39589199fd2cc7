/-! A Text of the class: an object and its array of ints -/
abbrev e_text (kd : Int32) (tI : Nat) : va_E := .inr (1, [.int kd, .ref tI])
def txtAt (w : Wd) (tx tI : Nat) (cI : ClassId) (kd : Int32) (len : Nat) (g : Nat → Int32) : Prop := w tx = some (e_text kd tI) ∧ w tI = some (e_ints cI len g) ∧ len ≤ 240
theorem wd_loop4 {p : Program} {l : Launch} {e : Env} {R : Room} {s : State} {m : MethodId} {args : Array Value} {below : List Frame} {meth : Method} {c : Code} {H : Heap} {locs : List Loc} {cells slots : Nat} {Q : State → Prop} {pc : Nat} {ls : Array Slot} {rest : List Value} {A1 A2 A3 A4 : Type} (I : A1 → A2 → A3 → A4 → Heap → List Loc → Array Slot → Prop) (μ : A1 → A2 → A3 → A4 → Nat) (a1 : A1) (a2 : A2) (a3 : A3) (a4 : A4) (h0 : I a1 a2 a3 a4 H locs ls)
    (hs : ∀ (x1 : A1) (x2 : A2) (x3 : A3) (x4 : A4) (H : Heap) (locs : List Loc) (ls : Array Slot), I x1 x2 x3 x4 H locs ls → (∀ (y1 : A1) (y2 : A2) (y3 : A3) (y4 : A4) (H : Heap) (locs : List Loc) (ls : Array Slot), I y1 y2 y3 y4 H locs ls → μ y1 y2 y3 y4 < μ x1 x2 x3 x4 → W p l e R s m args below meth c H locs cells slots Q (F0 m pc ls rest)) → W p l e R s m args below meth c H locs cells slots Q (F0 m pc ls rest)) : W p l e R s m args below meth c H locs cells slots Q (F0 m pc ls rest) :=
  wd_loop1 (fun (x : A1 × A2 × A3 × A4) => I x.1 x.2.1 x.2.2.1 x.2.2.2) (fun x => μ x.1 x.2.1 x.2.2.1 x.2.2.2) (a1, a2, a3, a4) h0 (fun x H locs ls hI ih => hs x.1 x.2.1 x.2.2.1 x.2.2.2 H locs ls hI (fun y1 y2 y3 y4 => ih (y1, y2, y3, y4)))
theorem j_srch_hit {P : Nat → Prop} [DecidablePred P] {m k : Nat} (h : P k) (hm : 0 < m) : j_srch P m k = nI k := by
  cases m with
  | zero => omega
  | succ m => rw [j_srch, if_pos h]
theorem j_srch_miss {P : Nat → Prop} [DecidablePred P] {m k : Nat} (h : ¬ P k) (hm : 0 < m) : j_srch P m k = j_srch P (m - 1) (k + 1) := by
  cases m with
  | zero => omega
  | succ m => rw [j_srch, if_neg h]; rfl
theorem j_srch_0 {P : Nat → Prop} [DecidablePred P] {m k : Nat} (hm : m = 0) : j_srch P m k = -1 := by subst hm; rfl
theorem j_r2_out {n : Nat} {g : Nat → Int32} {len : Nat} {form : Int32} {m k : Nat} {Y : Rw} (h : len ≤ k ∨ 60 < Y.2) : j_r2 n g len form m k Y = (-1, Y) := by
  cases m with
  | zero => rfl
  | succ m => rw [j_r2, if_neg (by omega)]
theorem j_r2_end {n : Nat} {g : Nat → Int32} {len : Nat} {form : Int32} {m k : Nat} {Y : Rw} (h1 : k < len) (h2 : Y.2 ≤ 60) (h3 : k + 1 = len) (hm : 0 < m) : j_r2 n g len form m k Y = (nI k, Y) := by
  cases m with
  | zero => omega
  | succ m => rw [j_r2, if_pos ⟨h1, h2⟩, if_pos h3]
theorem j_r2_go {n : Nat} {g : Nat → Int32} {len : Nat} {form : Int32} {m k : Nat} {Y : Rw} (h1 : k < len) (h2 : Y.2 ≤ 60) (h3 : k + 1 ≠ len) (hm : 0 < m) : j_r2 n g len form m k Y = j_r2 n g len form (m - 1) (k + 2) (r_add n ((if form = 1 then g k else g (k + 1)) * 256 + (if form = 1 then g (k + 1) else g k)) Y) := by
  cases m with
  | zero => omega
  | succ m => rw [j_r2, if_pos ⟨h1, h2⟩, if_neg h3]; rfl
theorem j_rm_out {n : Nat} {g : Nat → Int32} {len m k : Nat} {nx : Int32} {Y : Rw} (h : len ≤ k ∨ 60 < Y.2) : j_rm n g len m k nx Y = (-1, Y) := by
  cases m with
  | zero => rfl
  | succ m => rw [j_rm, if_neg (by omega)]
theorem j_rm_skip {n : Nat} {g : Nat → Int32} {len m k : Nat} {nx : Int32} {Y : Rw} (h1 : k < len) (h2 : Y.2 ≤ 60) (h3 : nI k < nx) (hm : 0 < m) : j_rm n g len m k nx Y = j_rm n g len (m - 1) (k + 1) nx Y := by
  cases m with
  | zero => omega
  | succ m => rw [j_rm, if_pos ⟨h1, h2⟩, if_neg (by rw [i_le]; simpa using h3)]; rfl
theorem j_rm_bad {n : Nat} {g : Nat → Int32} {len m k : Nat} {nx : Int32} {Y : Rw} (h1 : k < len) (h2 : Y.2 ≤ 60) (h3 : ¬ nI k < nx) (h4 : j_pf g len k = -1) (hm : 0 < m) : j_rm n g len m k nx Y = (nI k, Y) := by
  cases m with
  | zero => omega
  | succ m => rw [j_rm, if_pos ⟨h1, h2⟩, if_pos (by rw [i_le]; exact h3), if_pos h4]
theorem j_rm_go {n : Nat} {g : Nat → Int32} {len m k : Nat} {nx : Int32} {Y : Rw} (h1 : k < len) (h2 : Y.2 ≤ 60) (h3 : ¬ nI k < nx) (h4 : j_pf g len k ≠ -1) (hm : 0 < m) : j_rm n g len m k nx Y = j_rm n g len (m - 1) (k + 1) (nI k + j_bc (g k)) (r_uni n (j_pf g len k) Y) := by
  cases m with
  | zero => omega
  | succ m => rw [j_rm, if_pos ⟨h1, h2⟩, if_pos (by rw [i_le]; exact h3), if_neg h4]; rfl
theorem j_pfl_out {g : Nat → Int32} {len : Nat} {lim : Int32} {q m : Nat} {p : Int32} (h : ¬ nI m < lim ∨ len ≤ m) : j_pfl g len lim q m p = some p := by
  cases q with
  | zero => rfl
  | succ q => rw [j_pfl, if_neg (fun h9 => by rcases h with h | h; exact h h9.1; exact absurd h9.2 (by omega))]
theorem j_pfl_bad {g : Nat → Int32} {len : Nat} {lim : Int32} {q m : Nat} {p : Int32} (h1 : nI m < lim) (h2 : m < len) (h3 : g m < 128 ∨ 191 < g m) (hq : 0 < q) : j_pfl g len lim q m p = none := by
  cases q with
  | zero => omega
  | succ q => rw [j_pfl, if_pos ⟨h1, h2⟩, if_pos h3]
theorem j_pfl_go {g : Nat → Int32} {len : Nat} {lim : Int32} {q m : Nat} {p : Int32} (h1 : nI m < lim) (h2 : m < len) (h3 : ¬ (g m < 128 ∨ 191 < g m)) (hq : 0 < q) : j_pfl g len lim q m p = j_pfl g len lim (q - 1) (m + 1) (p * 64 + (g m - 128)) := by
  cases q with
  | zero => omega
  | succ q => rw [j_pfl, if_pos ⟨h1, h2⟩, if_neg h3]; rfl
theorem j_cmp_eq {f g : Nat → Int32} {m k : Nat} (h : f k = g k) (hm : 0 < m) : j_cmp f g m k = j_cmp f g (m - 1) (k + 1) := by
  cases m with
  | zero => omega
  | succ m => rw [j_cmp, if_pos h]; rfl
theorem j_cmp_ne {f g : Nat → Int32} {m k : Nat} (h : ¬ f k = g k) (hm : 0 < m) : j_cmp f g m k = some (if f k < g k then -1 else 1) := by
  cases m with
  | zero => omega
  | succ m => rw [j_cmp, if_neg h]
theorem j_beyond_spec {len pn : Nat} {k : Int32} (hl : len ≤ 240) (hp : pn ≤ 240) (h : ¬ j_beyond len k (nI pn)) : ∃ k' : Nat, k = nI k' ∧ k' + pn ≤ len := by
  simp only [j_beyond, not_or] at h
  obtain ⟨h1, h2, h3, h4⟩ := h
  obtain ⟨j, hj, rfl⟩ := nI_of h1
  refine ⟨j, rfl, ?_⟩
  rw [i_lt, nI_toInt (by omega), nI_toInt hj] at h3
  rw [pk_sub (by omega), i_lt, nI_toInt (by omega), nI_toInt (by omega)] at h4
  omega
theorem r_tu1_le {n : Nat} {form x : Int32} {Y : Rw} (h : Y.2 ≤ n) : (r_tu1 n form x Y).2 ≤ n := r_add_le (r_add_le h)
theorem r_mb_le {n : Nat} {p : Int32} {Y : Rw} (h : Y.2 ≤ n) : (r_mb n p Y).2 ≤ n := by
  unfold r_mb
  split
  · exact r_add_le h
  · split
    · exact r_add_le (r_add_le h)
    · split
      · exact r_add_le (r_add_le (r_add_le h))
      · exact r_add_le (r_add_le (r_add_le (r_add_le h)))
theorem j_r2_le {n : Nat} {g : Nat → Int32} {len : Nat} {form : Int32} : ∀ (m k : Nat) (Y : Rw), Y.2 ≤ n → (j_r2 n g len form m k Y).2.2 ≤ n
  | 0, _, _, h => h
  | m + 1, k, Y, h => by
    rw [j_r2]
    split
    · split
      · exact h
      · exact j_r2_le m _ _ (r_add_le h)
    · exact h
theorem j_rm_le {n : Nat} {g : Nat → Int32} {len : Nat} : ∀ (m k : Nat) (nx : Int32) (Y : Rw), Y.2 ≤ n → (j_rm n g len m k nx Y).2.2 ≤ n
  | 0, _, _, _, h => h
  | m + 1, k, nx, Y, h => by
    rw [j_rm]
    split
    · split
      · split
        · exact h
        · exact j_rm_le m _ _ _ (r_uni_le h)
      · exact j_rm_le m _ _ _ h
    · exact h
theorem j_ru_le {n : Nat} {g : Nat → Int32} {len : Nat} {form : Int32} {X : Rw} : (j_ru n g len form X).2.2 ≤ n := by
  unfold j_ru
  split
  · exact j_rm_le _ _ _ _ r_nil_le
  · split
    · exact r_all_le r_nil_le
    · exact j_r2_le _ _ _ r_nil_le
theorem nI_min {a b : Nat} (ha : a < 2 ^ 31) (hb : b < 2 ^ 31) : (if nI b < nI a then nI b else nI a) = nI (min a b) := by
  by_cases h : b < a
  · rw [if_pos ((nI_ltI hb ha).mpr h), Nat.min_eq_right (by omega)]
  · rw [if_neg (fun q => h ((nI_ltI hb ha).mp q)), Nat.min_eq_left (by omega)]
