theorem rl_mask {m : Int32} {Xd X : Rw} (h : Xd.2 ≤ 240) : rl (itN (fun j X => r_add 240 (Xd.1 j &&& m) X) Xd.2 (r_nil X)) = (rl Xd).map (fun x => x &&& m) := by
  rw [rl_itX (n := 240) (b := 1) (φ := fun x => [x &&& m]) (fun _ => Nat.le_refl 1) (fun k _ Y hY => rl_add (by simp at hY; omega)) (by rw [r_nil]; omega), rl_nil, List.nil_append, fm_1]
theorem rl_map {f : Int32 → Int32} {xs : List Int32} {X : Rw} (h : xs.length ≤ 240) : rl (itN (fun j X => r_add 240 (f (lf xs j)) X) xs.length (r_nil X)) = xs.map f := by
  rw [rl_itL (n := 240) (b := 1) (φ := fun x => [f x]) (fun _ => Nat.le_refl 1) (fun k _ Y hY => rl_add (by simp at hY; omega)) (by rw [r_nil]; omega), rl_nil, List.nil_append, fm_1]
theorem rl_all2 {n : Nat} {xs ys : List Int32} {X : Rw} (h : xs.length + ys.length ≤ n) : rl (r_all n (lf ys) ys.length (r_all n (lf xs) xs.length (r_nil X))) = xs ++ ys := by
  have h1 : rl (r_all n (lf xs) xs.length (r_nil X)) = xs := by rw [rl_all (by rw [r_nil]; omega), rl_nil, List.nil_append]
  have h2 := rl_cnt h1
  rw [rl_all (by omega), h1]
theorem r_tu_le {n' n : Nat} {form : Int32} {X Y : Rw} (h : Y.2 ≤ n) : (r_tu n' n form X Y).2 ≤ n := itN_le (fun _ _ h => r_tu1_le h) _ _ h
theorem r_tp_le {n' n : Nat} {form : Int32} {X Y : Rw} (h : Y.2 ≤ n) : (r_tp n' n form X Y).2 ≤ n := itN_le (fun _ _ h => by split; exact r_add_le h; exact r_mb_le h) _ _ h
theorem j_beyond_spec2 {len pn : Nat} {k : Int32} (hl : len ≤ 5760) (hp : pn < 2 ^ 31) (h : ¬ j_beyond len k (nI pn)) : ∃ k' : Nat, k = nI k' ∧ k' + pn ≤ len := by
  simp only [j_beyond, not_or] at h
  obtain ⟨h1, h2, h3, h4⟩ := h
  obtain ⟨j, hj, rfl⟩ := nI_of h1
  refine ⟨j, rfl, ?_⟩
  rw [i_lt, nI_toInt (by omega), nI_toInt hj] at h3
  rw [pk_sub (by omega), i_lt, nI_toInt (by omega), nI_toInt (by omega)] at h4
  omega
theorem j_beyond_n {len : Nat} {i n : Int32} (h : ¬ j_beyond len i n) : ∃ n' : Nat, n' < 2 ^ 31 ∧ n = nI n' := by
  simp only [j_beyond, not_or] at h
  exact nI_of h.2.1
theorem parts_iff {kd : Int32} {xs : List Int32} {k : Nat} (hx : xs.length ≤ 5760) (hk : k ≤ 5760) : j_parts kd (lf xs) xs.length (nI k) ↔ kd = 0 ∧ u_ins xs k := by
  unfold j_parts
  rw [j_ins_iff hx hk]
theorem bey_no {len i n : Nat} (hi : i < 2 ^ 31) (hn : n < 2 ^ 31) (h : i + n ≤ len) : ¬ j_bey len (nI i) (nI n) := by
  unfold j_bey
  rw [nI_toInt hi, nI_toInt hn]
  omega
theorem stands_iff {kd : Int32} {xs ys : List Int32} {k : Nat} (hx : xs.length ≤ 240) (hy : ys.length ≤ 240) (h : k + ys.length ≤ xs.length) : j_stands kd (lf xs) xs.length (lf ys) ys.length (nI k) ↔ u_st kd xs ys k := by
  unfold j_stands u_st
  rw [nI_add, nI_clamp (by omega), parts_iff (by omega) (by omega), parts_iff (by omega) (by omega)]
  constructor
  · exact fun q => q.2
  · intro q
    refine ⟨?_, q⟩
    rw [beyond_iff (by omega)]
    exact bey_no (by omega) (by omega) h
theorem last_iff {len pn k : Nat} (hl : len ≤ 240) (hp : pn ≤ 240) (hk : k < 2 ^ 31) : (nI len - nI pn < nI k) ↔ len + 1 - pn ≤ k := by
  rw [i_lt, nI_toInt hk, i_sub (by rw [nI_toInt (by omega), nI_toInt (by omega)]; omega) (by rw [nI_toInt (by omega), nI_toInt (by omega)]; omega), nI_toInt (by omega), nI_toInt (by omega)]
  omega
theorem clamp_neg {i : Int32} (h : i < 0) : i.toNatClampNeg = 0 := by
  rw [i_lt, i_l0] at h
  unfold Int32.toNatClampNeg
  omega
theorem nI_dec (a : Nat) : nI a + Int32.ofInt (-1) = nI a - 1 := by
  rw [Int32.sub_eq_add_neg]
  rfl
theorem i_m1 {a : Nat} (h : a < 2 ^ 31) : (nI a - 1 < 0) ↔ a = 0 := by
  rw [i_lt, nI_m1 h, i_l0]
  omega
theorem e_list_cpy {cI : ClassId} {xs ys : List Int32} {i j n : Nat} (h1 : i + n ≤ xs.length) (h2 : j + n ≤ ys.length) : (.inl (cI, ys.length, .inl (va_cpy (lf xs) (lf ys) i j n)) : va_E) = e_list cI (ys.take j ++ ((xs.drop i).take n ++ ys.drop (j + n))) := by
  have hl : (ys.take j ++ ((xs.drop i).take n ++ ys.drop (j + n))).length = ys.length := by
    simp
    omega
  have hf : va_cpy (lf xs) (lf ys) i j n = lf (ys.take j ++ ((xs.drop i).take n ++ ys.drop (j + n))) := by
    funext k
    unfold va_cpy lf
    simp only [List.getD_eq_getElem?_getD]
    by_cases hk : j ≤ k ∧ k < j + n
    · rw [if_pos hk, List.getElem?_append_right (by simp; omega), List.length_take, Nat.min_eq_left (by omega), List.getElem?_append_left (by simp; omega), List.getElem?_take, if_pos (by omega), List.getElem?_drop]
    · rw [if_neg hk]
      by_cases hk2 : k < j
      · rw [List.getElem?_append_left (by simp; omega), List.getElem?_take, if_pos hk2]
      · rw [List.getElem?_append_right (by simp; omega), List.length_take, Nat.min_eq_left (by omega), List.getElem?_append_right (by simp; omega), List.length_take, List.length_drop, Nat.min_eq_left (by omega), List.getElem?_drop]
        congr 2
        omega
  rw [e_list, hl, ← hf]
theorem u_kl_hit {rs : Rws} {xs : List Int32} {kp : List Nat} {k : Nat} (hk : k < kp.length) (h : (rs kp[k]).2 = xs) : u_kl rs xs (kp.drop k) k = some (k, kp[k]) := by
  rw [List.drop_eq_getElem_cons hk, u_kl, if_pos h]
theorem u_kl_miss {rs : Rws} {xs : List Int32} {kp : List Nat} {k : Nat} (hk : k < kp.length) (h : ¬ (rs kp[k]).2 = xs) : u_kl rs xs (kp.drop k) k = u_kl rs xs (kp.drop (k + 1)) (k + 1) := by
  rw [List.drop_eq_getElem_cons hk, u_kl, if_neg h]
theorem u_kl_end {rs : Rws} {xs : List Int32} {kp : List Nat} {k : Nat} (hk : kp.length ≤ k) : u_kl rs xs (kp.drop k) k = none := by
  rw [List.drop_eq_nil_of_le hk]
  rfl
theorem u_kl_spec {rs : Rws} {xs : List Int32} : ∀ (kp : List Nat) (j : Nat) {k r : Nat}, u_kl rs xs kp j = some (k, r) → j ≤ k ∧ kp[k - j]? = some r
  | [], _, _, _, h => by cases h
  | a :: l, j, k, r, h => by
    rw [u_kl] at h
    split at h
    · cases h
      exact ⟨Nat.le_refl _, by simp⟩
    · obtain ⟨h1, h2⟩ := u_kl_spec l (j + 1) h
      refine ⟨by omega, ?_⟩
      rw [show k - j = (k - (j + 1)) + 1 by omega, List.getElem?_cons_succ]
      exact h2
theorem same_iff {xs ys : List Int32} : j_same (lf xs) xs.length (lf ys) ys.length ↔ xs = ys := by
  unfold j_same
  constructor
  · rintro ⟨h1, h2⟩
    rw [← tk_lf xs, ← tk_lf ys, ← h1]
    exact List.map_congr_left (fun k hk => h2 k (List.mem_range.mp hk))
  · rintro rfl
    exact ⟨rfl, fun _ _ => rfl⟩
