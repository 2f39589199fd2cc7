/-! turning a text round: no pair is parted -/
def bk : List Int32 → List Int32
  | [] => []
  | [a] => [a]
  | a :: b :: l => if j_high a ∧ j_low b then bk l ++ [a, b] else bk (b :: l) ++ [a]
theorem hi_nat {a : Int32} (h : j_high a) : ∃ x : Nat, x < 1024 ∧ a = nI (55296 + x) := by
  have h1 := h.1
  have h2 := h.2
  rw [i_le, i_lt, show (55296 : Int32).toInt = 55296 from rfl] at h1
  rw [i_lt, show (56320 : Int32).toInt = 56320 from rfl] at h2
  obtain ⟨n, hn, rfl⟩ := nI_of (x := a) (by rw [i_lt, i_l0]; omega)
  rw [nI_toInt hn] at h1 h2
  exact ⟨n - 55296, by omega, by rw [show 55296 + (n - 55296) = n by omega]⟩
theorem lo_nat {b : Int32} (h : j_low b) : ∃ y : Nat, y < 1024 ∧ b = nI (56320 + y) := by
  have h1 := h.1
  have h2 := h.2
  rw [i_le, i_lt, show (56320 : Int32).toInt = 56320 from rfl] at h1
  rw [i_le, i_lt, show (57343 : Int32).toInt = 57343 from rfl] at h2
  obtain ⟨n, hn, rfl⟩ := nI_of (x := b) (by rw [i_lt, i_l0]; omega)
  rw [nI_toInt hn] at h1 h2
  exact ⟨n - 56320, by omega, by rw [show 56320 + (n - 56320) = n by omega]⟩
theorem pair_units {a b : Int32} (ha : j_high a) (hb : j_low b) : u_units (65536 + (a - 55296) * 1024 + (b - 56320)) = [a, b] := by
  obtain ⟨x, hx, rfl⟩ := hi_nat ha
  obtain ⟨y, hy, rfl⟩ := lo_nat hb
  have e1 : nI (55296 + x) - 55296 = nI x := by
    have := pk_sub (a := 55296 + x) (b := 55296) (by omega)
    rw [show 55296 + x - 55296 = x by omega] at this
    exact this
  have e2 : nI (56320 + y) - 56320 = nI y := by
    have := pk_sub (a := 56320 + y) (b := 56320) (by omega)
    rw [show 56320 + y - 56320 = y by omega] at this
    exact this
  have e3 : (65536 : Int32) + nI x * 1024 + nI y = nI (65536 + x * 1024 + y) := by
    have h1 : nI x * 1024 = nI (x * 1024) := pk_mul x 1024
    have h2 : (65536 : Int32) + nI (x * 1024) = nI (65536 + x * 1024) := nI_add 65536 (x * 1024)
    rw [h1, h2, nI_add]
  have e4 : nI (65536 + x * 1024 + y) - 65536 = nI (x * 1024 + y) := by
    have := pk_sub (a := 65536 + x * 1024 + y) (b := 65536) (by omega)
    rw [show 65536 + x * 1024 + y - 65536 = x * 1024 + y by omega] at this
    exact this
  have e5 : nI (x * 1024 + y) / 1024 = nI x := by
    have := pk_div (a := x * 1024 + y) (d := 1024) (by omega) (by omega) (by omega)
    rw [show (x * 1024 + y) / 1024 = x by omega] at this
    exact this
  have e6 : nI (x * 1024 + y) - nI x * 1024 = nI y := by
    have h1 : nI x * 1024 = nI (x * 1024) := pk_mul x 1024
    rw [h1, pk_sub (by omega), show x * 1024 + y - x * 1024 = y by omega]
  rw [e1, e2, e3, u_units, if_neg, e4, e5, e6]
  · rw [show (55296 : Int32) + nI x = nI (55296 + x) from nI_add 55296 x, show (56320 : Int32) + nI y = nI (56320 + y) from nI_add 56320 y]
  · intro q
    have := (nI_ltI (a := 65536 + x * 1024 + y) (b := 65536) (by omega) (by omega)).mp q
    omega
theorem bk_pts : ∀ xs : List Int32, (∀ v ∈ xs, 0 ≤ v.toInt ∧ v.toInt ≤ 65535) → (u_pts xs).reverse.flatMap u_units = bk xs
  | [], _ => rfl
  | [a], h => by
    have := (small_units (h a List.mem_cons_self)).1
    simp [u_pts, bk, this]
  | a :: b :: l, h => by
    rw [u_pts, bk]
    split
    · rename_i hp
      rw [List.reverse_cons, List.flatMap_append, bk_pts l (fun v hv => h v (List.mem_cons_of_mem _ (List.mem_cons_of_mem _ hv)))]
      simp [pair_units hp.1 hp.2]
    · rw [List.reverse_cons, List.flatMap_append, bk_pts (b :: l) (fun v hv => h v (List.mem_cons_of_mem _ hv))]
      simp [(small_units (h a List.mem_cons_self)).1]
abbrev u_U (kd : Int32) (xs : List Int32) (k : Nat) : Prop := kd = 0 ∧ u_ins xs k
def hb (kd : Int32) (xs : List Int32) (q : Nat) : Int32 := if u_U kd xs (q + 1) then lf xs (q + 1) else if u_U kd xs q then lf xs (q - 1) else lf xs q
theorem hb_1 {kd : Int32} {xs : List Int32} {q : Nat} (h : u_U kd xs (q + 1)) : hb kd xs q = lf xs (q + 1) := by rw [hb, if_pos h]
theorem hb_2 {kd : Int32} {xs : List Int32} {q : Nat} (h : ¬ u_U kd xs (q + 1)) (h2 : u_U kd xs q) : hb kd xs q = lf xs (q - 1) := by rw [hb, if_neg h, if_pos h2]
theorem hb_3 {kd : Int32} {xs : List Int32} {q : Nat} (h : ¬ u_U kd xs (q + 1)) (h2 : ¬ u_U kd xs q) : hb kd xs q = lf xs q := by rw [hb, if_neg h, if_neg h2]
theorem hb_cons {a : Int32} {l : List Int32} {k : Nat} (h : k = 0 → ¬ u_ins (a :: l) 1) : hb 0 (a :: l) (k + 1) = hb 0 l k := by
  by_cases h1 : u_ins l (k + 1)
  · rw [hb_1 ⟨rfl, (u_ins_cons a l k).mpr h1⟩, hb_1 ⟨rfl, h1⟩, lf_cons]
  · have a1 : ¬ u_U 0 (a :: l) (k + 1 + 1) := fun q => h1 ((u_ins_cons a l k).mp q.2)
    have a2 : ¬ u_U 0 l (k + 1) := fun q => h1 q.2
    by_cases hk : k = 0
    · subst hk
      rw [hb_3 a1 (fun q => h rfl q.2), hb_3 a2 (fun q => absurd q.2.1 (by omega)), lf_cons]
    · obtain ⟨j, rfl⟩ : ∃ j, k = j + 1 := ⟨k - 1, by omega⟩
      by_cases h3 : u_ins l (j + 1)
      · rw [hb_2 a1 ⟨rfl, (u_ins_cons a l j).mpr h3⟩, hb_2 a2 ⟨rfl, h3⟩, show j + 1 + 1 - 1 = j + 1 by omega, lf_cons, show j + 1 - 1 = j by omega]
      · rw [hb_3 a1 (fun q => h3 ((u_ins_cons a l j).mp q.2)), hb_3 a2 (fun q => h3 q.2), lf_cons]
theorem range_succ_map {α : Type} (f : Nat → α) (n : Nat) : (List.range (n + 1)).map f = f 0 :: (List.range n).map (fun k => f (k + 1)) := by
  rw [List.range_succ_eq_map, List.map_cons, List.map_map]
  rfl
theorem hb_bk : ∀ xs : List Int32, ((List.range xs.length).map (hb 0 xs)).reverse = bk xs
  | [] => rfl
  | [a] => by
    have h1 : ¬ u_ins [a] 1 := by unfold u_ins; simp
    have h0 : ¬ u_ins [a] 0 := by unfold u_ins; omega
    show ((List.range 1).map (hb 0 [a])).reverse = [a]
    simp [List.range_succ, hb, u_U, h1, h0, lf]
  | a :: b :: l => by
    have hins : u_ins (a :: b :: l) 1 ↔ j_high a ∧ j_low b := by
      unfold u_ins
      rw [show 1 - 1 = 0 by omega, lf_zero, show (1 : Nat) = 0 + 1 from rfl, lf_cons, lf_zero]
      simp
    have h0 : ¬ u_ins (a :: b :: l) 0 := by unfold u_ins; omega
    rw [List.length_cons, range_succ_map, bk]
    by_cases hp : j_high a ∧ j_low b
    · have h2 : ¬ u_ins (a :: b :: l) 2 := fun h => by
        have := (u_ins_cons a (b :: l) 0).mp h
        exact hi_lo (by have q := this.2.2.1; rw [show 0 + 1 - 1 = 0 by omega, lf_zero] at q; exact q) hp.2
      have h1' : ¬ u_ins (b :: l) 1 := fun h => h2 ((u_ins_cons a (b :: l) 0).mpr h)
      rw [List.length_cons, range_succ_map, if_pos hp]
      have e0 : hb 0 (a :: b :: l) 0 = b := by
        unfold hb u_U
        rw [if_pos ⟨rfl, hins.mpr hp⟩, lf_cons, lf_zero]
      have e1 : hb 0 (a :: b :: l) (0 + 1) = a := by
        unfold hb u_U
        rw [if_neg (fun q => h2 q.2), if_pos ⟨rfl, hins.mpr hp⟩, show 0 + 1 - 1 = 0 by omega, lf_zero]
      have e2 : (fun k => hb 0 (a :: b :: l) (k + 1 + 1)) = hb 0 l := by
        funext k
        rw [hb_cons (fun h => by omega), hb_cons (fun h => h1')]
      rw [e0, e1, e2, ← hb_bk l]
      simp
    · have e0 : hb 0 (a :: b :: l) 0 = a := by
        unfold hb u_U
        rw [if_neg (fun q => hp (hins.mp q.2)), if_neg (fun q => h0 q.2), lf_zero]
      have e2 : (fun k => hb 0 (a :: b :: l) (k + 1)) = hb 0 (b :: l) := by
        funext k
        exact hb_cons (fun h => fun h2 => hp (hins.mp h2))
      rw [e0, e2, if_neg hp, ← hb_bk (b :: l)]
      simp
theorem hb_list {kd : Int32} {xs : List Int32} (hr : kd = 0 → ∀ v ∈ xs, 0 ≤ v.toInt ∧ v.toInt ≤ 65535) : ((List.range xs.length).map (hb kd xs)).reverse = (u_pl kd xs).reverse.flatMap (fun p => if kd = 0 then u_units p else [p]) := by
  by_cases h : kd = 0
  · subst h
    rw [hb_bk, u_pl, if_pos rfl, ← bk_pts xs (hr rfl)]
    simp
  · have e : hb kd xs = lf xs := by
      funext q
      unfold hb u_U
      rw [if_neg (fun z => h z.1), if_neg (fun z => h z.1)]
    rw [e, tk_lf, u_pl, if_neg h]
    simp only [if_neg h]
    rw [fm_1 (fun x => x), List.map_id']
/-- the second pass over the turned items, at its k-th step -/
def hb_J (kd : Int32) (xs : List Int32) (k : Nat) (G : Nat → Int32) : Prop := ∀ p, p < xs.length → (p < k → G p = hb kd xs (xs.length - 1 - p)) ∧ (p = k → G p = if u_U kd xs (xs.length - k) then hb kd xs (xs.length - 1 - k) else lf xs (xs.length - 1 - k)) ∧ (k < p → G p = lf xs (xs.length - 1 - p))
theorem ins_two {xs : List Int32} {k : Nat} (h1 : u_ins xs k) (h2 : u_ins xs (k + 1)) : False := hi_lo (by have q := h2.2.2.1; rw [show k + 1 - 1 = k by omega] at q; exact q) h1.2.2.2
theorem hb_J0 {kd : Int32} {xs : List Int32} {G : Nat → Int32} (h : ∀ p, p < xs.length → G p = lf xs (xs.length - 1 - p)) : hb_J kd xs 0 G := fun p hp => ⟨fun q => absurd q (by omega), fun q => by
  subst q
  rw [if_neg (fun z => absurd z.2.2.1 (by omega))]
  exact h 0 hp, fun _ => h p hp⟩
theorem hb_Jpair {kd : Int32} {xs : List Int32} {k : Nat} {G : Nat → Int32} (h : hb_J kd xs k G) (hk : k + 1 < xs.length) (hU : u_U kd xs (xs.length - 1 - k)) : hb_J kd xs (k + 1) (upd (upd G k (lf xs (xs.length - 2 - k))) (k + 1) (lf xs (xs.length - 1 - k))) := by
  have hn : ¬ u_U kd xs (xs.length - 1 - k + 1) := fun z => ins_two hU.2 z.2
  intro p hp
  refine ⟨fun q => ?_, fun q => ?_, fun q => ?_⟩
  · rw [pk_un (by omega)]
    by_cases e : p = k
    · subst e
      rw [pk_us, hb, if_neg hn, if_pos hU, show xs.length - 1 - p - 1 = xs.length - 2 - p by omega]
    · rw [pk_un e]
      exact (h p hp).1 (by omega)
  · subst q
    rw [pk_us, show xs.length - (k + 1) = xs.length - 1 - k by omega, if_pos hU, hb, show xs.length - 1 - (k + 1) + 1 = xs.length - 1 - k by omega, if_pos hU]
  · rw [pk_un (by omega), pk_un (by omega)]
    exact (h p hp).2.2 (by omega)
theorem hb_Jno {kd : Int32} {xs : List Int32} {k : Nat} {G : Nat → Int32} (h : hb_J kd xs k G) (hk : k + 1 < xs.length) (hU : ¬ u_U kd xs (xs.length - 1 - k)) : hb_J kd xs (k + 1) G := by
  intro p hp
  refine ⟨fun q => ?_, fun q => ?_, fun q => (h p hp).2.2 (by omega)⟩
  · by_cases e : p = k
    · have h1 := (h p hp).2.1 e
      rw [h1, e]
      by_cases hV : u_U kd xs (xs.length - k)
      · rw [if_pos hV]
      · rw [if_neg hV, hb, show xs.length - 1 - k + 1 = xs.length - k by omega, if_neg hV, if_neg hU]
    · exact (h p hp).1 (by omega)
  · subst q
    rw [show xs.length - (k + 1) = xs.length - 1 - k by omega, if_neg hU]
    have h1 := (h (k + 1) hp).2.2 (by omega)
    exact h1
theorem hb_Jend {kd : Int32} {xs : List Int32} {k : Nat} {G : Nat → Int32} (h : hb_J kd xs k G) (hk : xs.length ≤ k + 1) (hk2 : k ≤ xs.length) : rl (G, xs.length) = ((List.range xs.length).map (hb kd xs)).reverse := by
  rw [← List.map_reverse]
  unfold rl
  apply List.ext_getElem
  · simp
  · intro i h1 h2
    simp at h1
    simp only [List.getElem_map, List.getElem_range, List.getElem_reverse, List.length_range]
    rcases Nat.lt_or_ge i k with q | q
    · exact (h i h1).1 q
    · have e : i = k := by omega
      rw [(h i h1).2.1 e, e]
      by_cases hV : u_U kd xs (xs.length - k)
      · rw [if_pos hV]
      · rw [if_neg hV, hb, show xs.length - 1 - k + 1 = xs.length - k by omega, if_neg hV, if_neg (fun z => absurd z.2.1 (by omega))]
