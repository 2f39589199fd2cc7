/-! Rows as lists -/
theorem rl_len (X : Rw) : (rl X).length = X.2 := by simp [rl]
theorem rl_nil (X : Rw) : rl (r_nil X) = [] := rfl
theorem rl_add {n : Nat} {x : Int32} {X : Rw} (h : X.2 < n) : rl (r_add n x X) = rl X ++ [x] := by
  rw [r_add, if_pos h]
  unfold rl
  simp only
  rw [List.range_succ, List.map_append, List.map_singleton, pk_us]
  congr 1
  apply List.map_congr_left
  intro a ha
  exact pk_un (by have := List.mem_range.mp ha; omega)
theorem r_add_cnt {n : Nat} {x : Int32} {X : Rw} (h : X.2 < n) : (r_add n x X).2 = X.2 + 1 := by rw [r_add, if_pos h]
theorem rl_cnt {X : Rw} {xs : List Int32} (h : rl X = xs) : X.2 = xs.length := by rw [← h, rl_len]
theorem rl_getD {X : Rw} {k : Nat} (h : k < X.2) : (rl X).getD k 0 = X.1 k := by
  unfold rl
  rw [List.getD_eq_getElem?_getD, List.getElem?_map, List.getElem?_range h]
  rfl
theorem tk_lf (xs : List Int32) : (List.range xs.length).map (lf xs) = xs := by
  apply List.ext_getElem
  · simp
  · intro i h1 h2
    simp [lf, h2]
/-- steps that append lists -/
theorem rl_it {n b : Nat} {F : Nat → Rw → Rw} {L : Nat → List Int32} {m : Nat} (hb : ∀ k, k < m → (L k).length ≤ b) (hF : ∀ k, k < m → ∀ Y : Rw, Y.2 + (L k).length ≤ n → rl (F k Y) = rl Y ++ L k) {X : Rw} (h : X.2 + m * b ≤ n) : rl (itN F m X) = rl X ++ (List.range m).flatMap L ∧ (itN F m X).2 ≤ X.2 + m * b := by
  induction m with
  | zero => exact ⟨by simp [itN], by simp [itN]⟩
  | succ m ih =>
    have e : (m + 1) * b = m * b + b := Nat.succ_mul m b
    obtain ⟨h1, h2⟩ := ih (fun k hk => hb k (by omega)) (fun k hk => hF k (by omega)) (by omega)
    have h3 := hb m (by omega)
    have h4 := hF m (by omega) (itN F m X) (by omega)
    have h5 : rl (itN F (m + 1) X) = rl X ++ (List.range (m + 1)).flatMap L := by
      show rl (F m (itN F m X)) = _
      rw [h4, h1, List.range_succ, List.flatMap_append, List.append_assoc]
      simp
    refine ⟨h5, ?_⟩
    show (F m (itN F m X)).2 ≤ _
    have h6 := congrArg List.length h4
    rw [rl_len, List.length_append, rl_len] at h6
    omega
theorem fm_lf {β : Type} (xs : List Int32) (φ : Int32 → List β) : (List.range xs.length).flatMap (fun k => φ (lf xs k)) = xs.flatMap φ := by
  have h := List.flatMap_map (f := lf xs) (g := φ) (l := List.range xs.length)
  rw [tk_lf] at h
  rw [h]
theorem fm_rl {β : Type} (X : Rw) (φ : Int32 → List β) : (List.range X.2).flatMap (fun k => φ (X.1 k)) = (rl X).flatMap φ := by
  unfold rl
  rw [List.flatMap_map]
theorem fm_1 {β : Type} (f : Int32 → β) (xs : List Int32) : xs.flatMap (fun x => [f x]) = xs.map f := by
  induction xs with
  | nil => rfl
  | cons a l ih => simp [ih]
theorem rl_all {n : Nat} {xs : List Int32} {X : Rw} (h : X.2 + xs.length ≤ n) : rl (r_all n (lf xs) xs.length X) = rl X ++ xs := by
  have h1 := (rl_it (n := n) (b := 1) (F := fun k X => r_add n (lf xs k) X) (L := fun k => [lf xs k]) (m := xs.length) (fun _ _ => by simp) (fun k _ Y hY => rl_add (by simp at hY; omega)) (X := X) (by omega)).1
  rw [fm_lf xs (fun x => [x]), fm_1 (fun x => x)] at h1
  rw [r_all, h1, List.map_id']
theorem u_units_len (p : Int32) : (u_units p).length = if p < 65536 then 1 else 2 := by
  unfold u_units
  split <;> rfl
theorem u_units_le (p : Int32) : (u_units p).length ≤ 2 := by
  rw [u_units_len]
  split <;> omega
theorem rl_uni {n : Nat} {p : Int32} {X : Rw} (h : X.2 + (u_units p).length ≤ n) : rl (r_uni n p X) = rl X ++ u_units p := by
  rw [u_units_len] at h
  unfold r_uni u_units
  split
  · rename_i h1
    rw [if_pos h1] at h
    exact rl_add (by omega)
  · rename_i h1
    rw [if_neg h1] at h
    rw [rl_add (by rw [r_add_cnt (by omega)]; omega), rl_add (by omega), List.append_assoc]
    rfl
theorem j_ins_iff {xs : List Int32} {k : Nat} (hx : xs.length ≤ 5760) (hk : k ≤ 5760) : j_ins (lf xs) xs.length (nI xs.length) (nI k) ↔ u_ins xs k := by
  unfold j_ins u_ins
  have e1 : (nI k < 1) ↔ k < 1 := by
    have := nI_ltI (a := k) (b := 1) (by omega) (by omega)
    exact this
  have e2 : (nI xs.length ≤ nI k) ↔ xs.length ≤ k := nI_leI (by omega) (by omega)
  rw [e1, e2]
  constructor
  · rintro ⟨h1, h2, h3⟩
    have hk1 : 1 ≤ k := by omega
    have e3 : nI k - 1 = nI (k - 1) := pk_sub (a := k) (b := 1) hk1
    rw [e3, nI_clamp (by omega)] at h2
    rw [nI_clamp (by omega)] at h3
    exact ⟨hk1, by omega, h2, h3⟩
  · rintro ⟨h0, h1, h2, h3⟩
    have e3 : nI k - 1 = nI (k - 1) := pk_sub (a := k) (b := 1) h0
    rw [e3, nI_clamp (by omega), nI_clamp (by omega)]
    exact ⟨by omega, h2, h3⟩
theorem j_pp_eq {xs : List Int32} {k : Nat} (hx : xs.length ≤ 5760) (h : k + 1 < xs.length) : j_pp (lf xs) xs.length (nI k) = 65536 + (lf xs k - 55296) * 1024 + (lf xs (k + 1) - 56320) := by
  have e1 : nI xs.length - 1 = nI (xs.length - 1) := pk_sub (a := xs.length) (b := 1) (by omega)
  rw [j_pp, if_neg, nI_1, nI_clamp (by omega), nI_clamp (by omega)]
  rw [e1]
  rintro (h1 | h1)
  · exact nI_pos (by omega) h1
  · have := (nI_leI (by omega) (by omega)).mp h1
    omega
theorem hi_lo {x : Int32} (h1 : j_high x) (h2 : j_low x) : False := by
  have a := h1.2
  have b := h2.1
  rw [i_le] at b
  exact b a
/-- what the class's loop lists at place k -/
def u_L (xs : List Int32) (k : Nat) : List Int32 := if u_ins xs (k + 1) then [65536 + (lf xs k - 55296) * 1024 + (lf xs (k + 1) - 56320)] else if u_ins xs k then [] else [lf xs k]
theorem lf_cons (a : Int32) (l : List Int32) (k : Nat) : lf (a :: l) (k + 1) = lf l k := by simp [lf]
theorem lf_zero (a : Int32) (l : List Int32) : lf (a :: l) 0 = a := by simp [lf]
theorem u_ins_cons (a : Int32) (l : List Int32) (k : Nat) : u_ins (a :: l) (k + 2) ↔ u_ins l (k + 1) := by
  unfold u_ins
  rw [lf_cons, show k + 2 - 1 = k + 1 by omega, lf_cons, show k + 1 - 1 = k by omega, List.length_cons]
  constructor <;> rintro ⟨h1, h2, h3⟩ <;> exact ⟨by omega, by omega, h3⟩
theorem u_L_cons {a : Int32} {l : List Int32} {k : Nat} (h : k = 0 → ¬ u_ins (a :: l) 1) : u_L (a :: l) (k + 1) = u_L l k := by
  unfold u_L
  by_cases h1 : u_ins l (k + 1)
  · rw [if_pos ((u_ins_cons a l k).mpr h1), if_pos h1, lf_cons, lf_cons]
  · rw [if_neg (fun q => h1 ((u_ins_cons a l k).mp q)), if_neg h1]
    have h2 : u_ins (a :: l) (k + 1) ↔ u_ins l k := by
      by_cases hk : k = 0
      · subst hk
        exact ⟨fun q => absurd q (h rfl), fun q => absurd q.1 (by omega)⟩
      · obtain ⟨j, rfl⟩ : ∃ j, k = j + 1 := ⟨k - 1, by omega⟩
        exact u_ins_cons a l j
    by_cases h3 : u_ins l k
    · rw [if_pos (h2.mpr h3), if_pos h3]
    · rw [if_neg (fun q => h3 (h2.mp q)), if_neg h3, lf_cons]
theorem range_succ_fm {α : Type} (f : Nat → List α) (n : Nat) : (List.range (n + 1)).flatMap f = f 0 ++ (List.range n).flatMap (fun k => f (k + 1)) := by
  rw [List.range_succ_eq_map, List.flatMap_cons, List.flatMap_map]
theorem u_L_pts : ∀ xs : List Int32, (List.range xs.length).flatMap (u_L xs) = u_pts xs
  | [] => rfl
  | [a] => by
    show (List.range 1).flatMap (u_L [a]) = [a]
    rw [range_succ_fm]
    have h1 : ¬ u_ins [a] 1 := by unfold u_ins; simp
    have h0 : ¬ u_ins [a] 0 := by unfold u_ins; omega
    simp [u_L, h1, h0, lf]
  | a :: b :: l => by
    have hins : u_ins (a :: b :: l) 1 ↔ j_high a ∧ j_low b := by
      unfold u_ins
      rw [show 1 - 1 = 0 by omega, lf_zero, show (1 : Nat) = 0 + 1 from rfl, lf_cons, lf_zero]
      simp
    have h0 : ¬ u_ins (a :: b :: l) 0 := by unfold u_ins; omega
    rw [List.length_cons, range_succ_fm]
    by_cases hp : j_high a ∧ j_low b
    · have h2 : ¬ u_ins (a :: b :: l) 2 := fun h => by
        have := (u_ins_cons a (b :: l) 0).mp h
        exact hi_lo (by have q := this.2.2.1; rw [show 0 + 1 - 1 = 0 by omega, lf_zero] at q; exact q) hp.2
      have h1' : ¬ u_ins (b :: l) 1 := fun h => h2 ((u_ins_cons a (b :: l) 0).mpr h)
      rw [List.length_cons, range_succ_fm]
      have e0 : u_L (a :: b :: l) 0 = [65536 + (a - 55296) * 1024 + (b - 56320)] := by
        unfold u_L
        rw [if_pos (hins.mpr hp), lf_zero, lf_cons, lf_zero]
      have e1 : u_L (a :: b :: l) (0 + 1) = [] := by
        unfold u_L
        rw [if_neg h2, if_pos (hins.mpr hp)]
      have e2 : (fun k => u_L (a :: b :: l) (k + 1 + 1)) = u_L l := by
        funext k
        rw [u_L_cons (fun h => by omega), u_L_cons (fun h => h1')]
      rw [e0, e1, e2, u_L_pts l, u_pts, if_pos hp]
      rfl
    · have e0 : u_L (a :: b :: l) 0 = [a] := by
        unfold u_L
        rw [if_neg (fun h => hp (hins.mp h)), if_neg h0, lf_zero]
      have e2 : (fun k => u_L (a :: b :: l) (k + 1)) = u_L (b :: l) := by
        funext k
        exact u_L_cons (fun h => fun h2 => hp (hins.mp h2))
      rw [e0, e2, u_L_pts (b :: l), u_pts, if_neg hp]
      rfl
theorem j_ins_iff' {xs : List Int32} {g : Nat → Int32} {len k : Nat} (hg : ∀ j, j < xs.length → g j = lf xs j) (hl : xs.length ≤ len) (hx : len ≤ 5760) (hk : k ≤ 5760) : j_ins g len (nI xs.length) (nI k) ↔ u_ins xs k := by
  unfold j_ins u_ins
  have e1 : (nI k < 1) ↔ k < 1 := by
    have := nI_ltI (a := k) (b := 1) (by omega) (by omega)
    exact this
  have e2 : (nI xs.length ≤ nI k) ↔ xs.length ≤ k := nI_leI (by omega) (by omega)
  have e4 : (nI len ≤ nI k) ↔ len ≤ k := nI_leI (by omega) (by omega)
  rw [e1, e2, e4]
  constructor
  · rintro ⟨h1, h2, h3⟩
    have hk1 : 1 ≤ k := by omega
    have e3 : nI k - 1 = nI (k - 1) := pk_sub (a := k) (b := 1) hk1
    rw [e3, nI_clamp (by omega), hg _ (by omega)] at h2
    rw [nI_clamp (by omega), hg _ (by omega)] at h3
    exact ⟨hk1, by omega, h2, h3⟩
  · rintro ⟨h0, h1, h2, h3⟩
    have e3 : nI k - 1 = nI (k - 1) := pk_sub (a := k) (b := 1) h0
    rw [e3, nI_clamp (by omega), nI_clamp (by omega), hg _ (by omega), hg _ (by omega)]
    exact ⟨by omega, h2, h3⟩
theorem j_pp_eq' {xs : List Int32} {g : Nat → Int32} {len k : Nat} (hg : ∀ j, j < xs.length → g j = lf xs j) (hl : xs.length ≤ len) (hx : len ≤ 5760) (h : k + 1 < xs.length) : j_pp g len (nI k) = 65536 + (lf xs k - 55296) * 1024 + (lf xs (k + 1) - 56320) := by
  have e1 : nI len - 1 = nI (len - 1) := pk_sub (a := len) (b := 1) (by omega)
  rw [j_pp, if_neg, nI_1, nI_clamp (by omega), nI_clamp (by omega), hg _ (by omega), hg _ (by omega)]
  rw [e1]
  rintro (h1 | h1)
  · exact nI_pos (by omega) h1
  · have := (nI_leI (by omega) (by omega)).mp h1
    omega
theorem rl_pts' {n : Nat} {xs : List Int32} {g : Nat → Int32} {len : Nat} {X : Rw} (hg : ∀ j, j < xs.length → g j = lf xs j) (hl : xs.length ≤ len) (hx : len ≤ 5760) (h : X.2 + xs.length ≤ n) : rl (r_pts n g len xs.length X) = rl X ++ u_pts xs := by
  have h1 := (rl_it (n := n) (b := 1) (F := r_pt1 n g len (nI xs.length)) (L := u_L xs) (m := xs.length) (fun k _ => by unfold u_L; split; simp; split <;> simp) (fun k hk Y hY => by
    unfold r_pt1
    rw [nI_1]
    unfold u_L at hY ⊢
    by_cases h1 : u_ins xs (k + 1)
    · rw [if_pos ((j_ins_iff' hg hl hx (by omega)).mpr h1), if_pos h1, rl_add (by rw [if_pos h1] at hY; simp at hY; omega), j_pp_eq' hg hl hx h1.2.1]
    · rw [if_neg (fun q => h1 ((j_ins_iff' hg hl hx (by omega)).mp q)), if_neg h1]
      rw [if_neg h1] at hY
      by_cases h2 : u_ins xs k
      · rw [if_pos ((j_ins_iff' hg hl hx (by omega)).mpr h2), if_pos h2, List.append_nil]
      · rw [if_neg (fun q => h2 ((j_ins_iff' hg hl hx (by omega)).mp q)), if_neg h2, rl_add (by rw [if_neg h2] at hY; simp at hY; omega), hg k hk]) (X := X) (by omega)).1
  rw [u_L_pts] at h1
  rw [r_pts, Nat.min_eq_left hl, h1]
theorem rl_pts {n : Nat} {xs : List Int32} {X : Rw} (hx : xs.length ≤ 5760) (h : X.2 + xs.length ≤ n) : rl (r_pts n (lf xs) xs.length xs.length X) = rl X ++ u_pts xs := rl_pts' (fun _ _ => rfl) (Nat.le_refl _) hx h
theorem rl_lp {n : Nat} {kd : Int32} {xs : List Int32} {X : Rw} (hx : xs.length ≤ 5760) (h : xs.length ≤ n) : rl (r_lp n kd (lf xs) xs.length X) = u_pl kd xs := by
  unfold r_lp u_pl
  split
  · rw [rl_pts hx (by rw [r_nil]; omega), rl_nil, List.nil_append]
  · rw [rl_all (by rw [r_nil]; omega), rl_nil, List.nil_append]
theorem rl_lu {n : Nat} {kd : Int32} {xs : List Int32} {X : Rw} (h : xs.length ≤ n) (h2 : kd = 1 → xs.length * 2 ≤ n) : rl (r_lu n kd (lf xs) xs.length X) = u_ul kd xs := by
  unfold r_lu u_ul
  split
  · rw [rl_all (by rw [r_nil]; omega), rl_nil, List.nil_append]
  · rename_i hk
    have hk' : kd = 1 := by simpa using hk
    have h1 := (rl_it (n := n) (b := 2) (F := fun k X => r_uni n (lf xs k) X) (L := fun k => u_units (lf xs k)) (m := xs.length) (fun k _ => u_units_le _) (fun k _ Y hY => rl_uni hY) (X := r_nil X) (by rw [r_nil]; have := h2 hk'; omega)).1
    rw [fm_lf xs u_units, rl_nil, List.nil_append] at h1
    exact h1
