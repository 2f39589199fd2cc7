theorem u_pts_len : ∀ xs : List Int32, (u_pts xs).length ≤ xs.length
  | [] => Nat.le_refl _
  | [_] => Nat.le_refl _
  | a :: b :: l => by
    rw [u_pts]
    split
    · have := u_pts_len l
      simp only [List.length_cons]
      omega
    · have := u_pts_len (b :: l)
      simp only [List.length_cons] at this ⊢
      omega
theorem u_pl_len (kd : Int32) (xs : List Int32) : (u_pl kd xs).length ≤ xs.length := by
  unfold u_pl
  split
  · exact u_pts_len xs
  · exact Nat.le_refl _
theorem fm_len_le {φ : Int32 → List Int32} {b : Nat} (h : ∀ x, (φ x).length ≤ b) (xs : List Int32) : (xs.flatMap φ).length ≤ xs.length * b := by
  induction xs with
  | nil => simp
  | cons a l ih =>
    rw [List.flatMap_cons, List.length_append, List.length_cons, Nat.succ_mul]
    have := h a
    omega
theorem u_ul_len (kd : Int32) (xs : List Int32) : (u_ul kd xs).length ≤ xs.length * 2 := by
  unfold u_ul
  split
  · omega
  · exact fm_len_le u_units_le xs
/-- steps over another row's items -/
theorem rl_itX {n b : Nat} {F : Nat → Rw → Rw} {X : Rw} {φ : Int32 → List Int32} (hb : ∀ x, (φ x).length ≤ b) (hF : ∀ k, k < X.2 → ∀ Y : Rw, Y.2 + (φ (X.1 k)).length ≤ n → rl (F k Y) = rl Y ++ φ (X.1 k)) {Y : Rw} (h : Y.2 + X.2 * b ≤ n) : rl (itN F X.2 Y) = rl Y ++ (rl X).flatMap φ := by
  have h1 := (rl_it (n := n) (b := b) (F := F) (L := fun k => φ (X.1 k)) (m := X.2) (fun k _ => hb _) hF h).1
  rw [fm_rl X φ] at h1
  exact h1
theorem rl_itL {n b : Nat} {F : Nat → Rw → Rw} {xs : List Int32} {φ : Int32 → List Int32} (hb : ∀ x, (φ x).length ≤ b) (hF : ∀ k, k < xs.length → ∀ Y : Rw, Y.2 + (φ (lf xs k)).length ≤ n → rl (F k Y) = rl Y ++ φ (lf xs k)) {Y : Rw} (h : Y.2 + xs.length * b ≤ n) : rl (itN F xs.length Y) = rl Y ++ xs.flatMap φ := by
  have h1 := (rl_it (n := n) (b := b) (F := F) (L := fun k => φ (lf xs k)) (m := xs.length) (fun k _ => hb _) hF h).1
  rw [fm_lf xs φ] at h1
  exact h1
theorem rl_tu1 {n : Nat} {form x : Int32} {Y : Rw} (h : Y.2 + (u_tu form x).length ≤ n) : rl (r_tu1 n form x Y) = rl Y ++ u_tu form x := by
  have e : (u_tu form x).length = 2 := rfl
  rw [e] at h
  unfold r_tu1 u_tu
  rw [rl_add (by rw [r_add_cnt (by omega)]; omega), rl_add (by omega), List.append_assoc]
  rfl
theorem rl_tu {n n' : Nat} {form : Int32} {X Y : Rw} (h1 : X.2 ≤ n') (h : Y.2 + X.2 * 2 ≤ n) : rl (r_tu n' n form X Y) = rl Y ++ (rl X).flatMap (u_tu form) := by
  unfold r_tu
  rw [Nat.min_eq_left h1]
  exact rl_itX (fun x => Nat.le_refl 2) (fun k _ Y hY => rl_tu1 hY) h
theorem u_mb_le (p : Int32) : (u_mb p).length ≤ 4 := by
  unfold u_mb
  split
  · simp
  · split
    · simp
    · split <;> simp
theorem rl_mb {n : Nat} {p : Int32} {Y : Rw} (h : Y.2 + (u_mb p).length ≤ n) : rl (r_mb n p Y) = rl Y ++ u_mb p := by
  unfold u_mb at h ⊢
  unfold r_mb
  split
  · rename_i h1
    rw [if_pos h1] at h
    simp only [List.length_cons, List.length_nil] at h
    exact rl_add (by omega)
  · rename_i h1
    rw [if_neg h1] at h
    split
    · rename_i h2
      rw [if_pos h2] at h
      simp only [List.length_cons, List.length_nil] at h
      rw [rl_add (by rw [r_add_cnt (by omega)]; omega), rl_add (by omega)]
      simp
    · rename_i h2
      rw [if_neg h2] at h
      split
      · rename_i h3
        rw [if_pos h3] at h
        simp only [List.length_cons, List.length_nil] at h
        have c1 := r_add_cnt (n := n) (x := 224 + p / 4096) (X := Y) (by omega)
        rw [rl_add (by rw [r_add_cnt (by omega)]; omega), rl_add (by omega), rl_add (by omega)]
        simp
      · rename_i h3
        rw [if_neg h3] at h
        simp only [List.length_cons, List.length_nil] at h
        have c1 := r_add_cnt (n := n) (x := 240 + p / 262144) (X := Y) (by omega)
        have c2 := r_add_cnt (n := n) (x := 128 + (p / 4096 - p / 4096 / 64 * 64)) (X := r_add n (240 + p / 262144) Y) (by omega)
        rw [rl_add (by rw [r_add_cnt (by omega)]; omega), rl_add (by omega), rl_add (by omega), rl_add (by omega)]
        simp
theorem u_tp_le (form p : Int32) : (u_tp form p).length ≤ 4 := by
  unfold u_tp
  split
  · simp
  · exact u_mb_le p
theorem rl_tp {n n' : Nat} {form : Int32} {X Y : Rw} (h1 : X.2 ≤ n') (h : Y.2 + X.2 * 4 ≤ n) : rl (r_tp n' n form X Y) = rl Y ++ (rl X).flatMap (u_tp form) := by
  unfold r_tp
  rw [Nat.min_eq_left h1]
  refine rl_itX (u_tp_le form) (fun k _ Y hY => ?_) h
  unfold u_tp at hY ⊢
  split
  · rename_i h2
    rw [if_pos h2] at hY
    simp only [List.length_cons, List.length_nil] at hY
    exact rl_add (by omega)
  · rename_i h2
    rw [if_neg h2] at hY
    exact rl_mb hY
theorem srch_find {P : Int32 → Prop} [DecidablePred P] (X : Rw) : ∀ (m k : Nat), k + m = X.2 → j_srch (fun k => P (X.1 k)) m k = u_find P ((rl X).drop k) k
  | 0, k, h => by
    rw [List.drop_eq_nil_of_le (by rw [rl_len]; omega)]
    rfl
  | m + 1, k, h => by
    have hk : k < (rl X).length := by rw [rl_len]; omega
    rw [List.drop_eq_getElem_cons hk]
    have e : (rl X)[k] = X.1 k := by simp [rl]
    rw [e, j_srch, u_find, srch_find X m (k + 1) (by omega)]
theorem j_fu_eq {X : Rw} {n : Nat} {form : Int32} (h : X.2 ≤ n) : j_fu X n form = u_find (j_bad form) (rl X) 0 := by
  unfold j_fu
  rw [Nat.min_eq_left h]
  have h1 := srch_find (P := j_bad form) X X.2 0 (by omega)
  rw [List.drop_zero] at h1
  exact h1
theorem cmp_ord {X Y : Rw} : ∀ (m k : Nat), k + m = min X.2 Y.2 → (match j_cmp X.1 Y.1 m k with | some r => r | none => if X.2 = Y.2 then 0 else if X.2 < Y.2 then -1 else 1) = u_ord ((rl X).drop k) ((rl Y).drop k)
  | 0, k, h => by
    show (if X.2 = Y.2 then (0 : Int32) else if X.2 < Y.2 then -1 else 1) = _
    by_cases h1 : X.2 = Y.2
    · rw [if_pos h1, List.drop_eq_nil_of_le (by rw [rl_len]; omega), List.drop_eq_nil_of_le (by rw [rl_len]; omega)]
      rfl
    · rw [if_neg h1]
      by_cases h2 : X.2 < Y.2
      · rw [if_pos h2, List.drop_eq_nil_of_le (by rw [rl_len]; omega), List.drop_eq_getElem_cons (by rw [rl_len]; omega)]
        rfl
      · rw [if_neg h2, List.drop_eq_getElem_cons (i := k) (l := rl X) (by rw [rl_len]; omega), List.drop_eq_nil_of_le (as := rl Y) (i := k) (by rw [rl_len]; omega)]
        rfl
  | m + 1, k, h => by
    have hk : k < (rl X).length := by rw [rl_len]; omega
    have hk2 : k < (rl Y).length := by rw [rl_len]; omega
    rw [List.drop_eq_getElem_cons hk, List.drop_eq_getElem_cons hk2]
    have e : (rl X)[k] = X.1 k := by simp [rl]
    have e2 : (rl Y)[k] = Y.1 k := by simp [rl]
    rw [e, e2, u_ord]
    by_cases h1 : X.1 k = Y.1 k
    · rw [j_cmp, if_pos h1, if_pos h1]
      exact cmp_ord m (k + 1) (by omega)
    · rw [j_cmp, if_neg h1, if_neg h1]
theorem j_ord_eq {X Y : Rw} {n n' : Nat} (h1 : X.2 ≤ n) (h2 : Y.2 ≤ n') : j_ord X n Y n' = u_ord (rl X) (rl Y) := by
  unfold j_ord
  rw [Nat.min_eq_left h1, Nat.min_eq_left h2]
  have h := cmp_ord (X := X) (Y := Y) (min X.2 Y.2) 0 (by omega)
  rw [List.drop_zero, List.drop_zero] at h
  exact h
theorem beyond_iff {len : Nat} {i n : Int32} (hl : len ≤ 5760) : j_beyond len i n ↔ j_bey len i n := by
  unfold j_beyond j_bey
  have hi := i_rg i
  have hn := i_rg n
  rw [i_lt, i_l0, i_lt, i_l0, i_lt, nI_toInt (by omega), i_lt]
  by_cases h1 : i.toInt < 0
  · simp [h1]
  · have e : (nI len - i).toInt = (len : Int) - i.toInt := by
      rw [i_sub (by rw [nI_toInt (by omega)]; omega) (by rw [nI_toInt (by omega)]; omega), nI_toInt (by omega)]
    rw [e]
    constructor <;> intro h <;> omega
theorem lf_drop (xs : List Int32) (i k : Nat) : lf (xs.drop i) k = lf xs (i + k) := by simp [lf, List.getElem?_drop]
theorem tk_drop {xs : List Int32} {i n : Nat} (h : i + n ≤ xs.length) : (List.range n).flatMap (fun k => [lf xs (i + k)]) = (xs.drop i).take n := by
  rw [show (fun k => [lf xs (i + k)]) = (fun k => [lf (xs.drop i) k]) from by funext k; rw [lf_drop]]
  apply List.ext_getElem?
  intro j
  have e : (List.range n).flatMap (fun k => [lf (xs.drop i) k]) = (List.range n).map (lf (xs.drop i)) := by
    rw [List.map_eq_flatMap]
  rw [e, List.getElem?_map, List.getElem?_take]
  by_cases hj : j < n
  · rw [List.getElem?_range hj, if_pos hj]
    have hx : i + j < xs.length := by omega
    simp [lf, List.getElem?_drop, hx]
  · rw [if_neg hj, List.getElem?_eq_none (by simp; omega)]
    rfl
theorem rl_cut {N : Nat} {xs : List Int32} {i n : Nat} {X : Rw} (h : i + n ≤ xs.length) (h2 : X.2 + n ≤ N) : rl (itN (fun k X => r_add N (lf xs (i + k)) X) n X) = rl X ++ (xs.drop i).take n := by
  have h1 := (rl_it (n := N) (b := 1) (F := fun k X => r_add N (lf xs (i + k)) X) (L := fun k => [lf xs (i + k)]) (m := n) (fun _ _ => by simp) (fun k _ Y hY => rl_add (by simp at hY; omega)) (X := X) (by omega)).1
  rw [tk_drop h] at h1
  exact h1
theorem fm_rev {X : Rw} (φ : Int32 → List Int32) : (List.range X.2).flatMap (fun j => φ (X.1 (X.2 - 1 - j))) = (rl X).reverse.flatMap φ := by
  have e : (rl X).reverse = (List.range X.2).map (fun j => X.1 (X.2 - 1 - j)) := by
    unfold rl
    rw [← List.map_reverse]
    apply List.ext_getElem
    · simp
    · intro i h1 h2
      simp at h1
      simp
  rw [e, List.flatMap_map]
