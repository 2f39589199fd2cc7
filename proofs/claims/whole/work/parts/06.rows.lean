set_option maxHeartbeats 4000000 in
set_option maxRecDepth 100000 in
theorem k_X2_isInsidePair (l : Launch) (D : va_G) (cI cT : ClassId) (w : Wd) (sz : Nat) (a : Nat) (len : Nat) (g : Nat → Int32) (n : Int32) (k : Int32) (ha : w a = some (e_ints cI len g)) (hlen : len ≤ 5760) : wd_Mi l D vwCl (gK D cI cT) yX2_isInsidePair wsX2_isInsidePair (wd_rm 1 0 0) [.ref a, .int n, .int k] w sz (fun r w' => r = j_b (j_ins g len n k) ∧ w' = w) := by
  refine wd_met (cc := cX2_isInsidePair) (maxL := 3) (ret := (some .boolean)) (by decide) rfl (Nat.le_of_ble_eq_true rfl) ?_
  intro pg ev sg mi bl mt cde ls C0 hsz hK hW hl
  obtain ⟨hx, hb, hr, hml, hown, hts, hlocks, hnm⟩ := C0
  subst hsz
  have hown : sg.vm.findClass RX2 = some mi.cls := hown
  have hS : va_S (wd_A w sg.heap.size) sg.heap sg.heap [] := va_S.rf
  have hA : ∀ q, sg.heap.size ≤ q → wd_A w sg.heap.size q := fun q h => Or.inr h
  have hl : lv_has ls 3 [(0, .ref a), (1, .int n), (2, .int k)] := hl
  refine lv_iload_n hx hb dX2_isInsidePair_0 rfl (lv_at hl 2 rfl) ?_
  refine lv_iconst (v := 1) hx hb dX2_isInsidePair_1 (by decide) ?_
  refine lv_icmp_lt (tgt := 16) hx hb dX2_isInsidePair_2 (by decide) (fun c_2 => ?_) (fun c_2 => ?_)
  ·
    refine lv_iconst (v := 0) hx hb dX2_isInsidePair_16 (by decide) ?_
    refine wd_zret hx hb hr hlocks (Or.inl rfl) hW hS dX2_isInsidePair_17 ?_
    exact ⟨by first | (simp [j_b, j_ins, c_2]; done) | (simp only [j_b, j_ins, i_le]; simp [c_2]; done) | (exfalso; simp_all; done) | (simp only [j_ins, j_b, i_le, Decidable.not_not]; simp_all), rfl⟩
  ·
    refine lv_iload_n hx hb dX2_isInsidePair_5 rfl (lv_at hl 2 rfl) ?_
    refine lv_iload_n hx hb dX2_isInsidePair_6 rfl (lv_at hl 1 rfl) ?_
    refine lv_icmp_ge (tgt := 16) hx hb dX2_isInsidePair_7 (by decide) (fun c_7 => ?_) (fun c_7 => ?_)
    ·
      simp only [i_le, Decidable.not_not] at c_7
      refine lv_iconst (v := 0) hx hb dX2_isInsidePair_16 (by decide) ?_
      refine wd_zret hx hb hr hlocks (Or.inl rfl) hW hS dX2_isInsidePair_17 ?_
      exact ⟨by first | (simp [j_b, j_ins, c_2, c_7]; done) | (simp only [j_b, j_ins, i_le]; simp [c_2, c_7]; done) | (exfalso; simp_all; done) | (simp only [j_ins, j_b, i_le, Decidable.not_not]; simp_all), rfl⟩
    ·
      simp only [i_le, Decidable.not_not] at c_7
      refine lv_iload_n hx hb dX2_isInsidePair_10 rfl (lv_at hl 2 rfl) ?_
      refine lv_aload_n hx hb dX2_isInsidePair_11 rfl (lv_at hl 0 rfl) ?_
      refine wd_alen hx hb hK.1 hW 0 ha rfl dX2_isInsidePair_12 ?_
      refine lv_icmp_lt (tgt := 18) hx hb dX2_isInsidePair_13 (by decide) (fun c_13 => ?_) (fun c_13 => ?_)
      ·
        refine lv_aload_n hx hb dX2_isInsidePair_18 rfl (lv_at hl 0 rfl) ?_
        refine lv_iload_n hx hb dX2_isInsidePair_19 rfl (lv_at hl 2 rfl) ?_
        refine lv_iconst (v := 1) hx hb dX2_isInsidePair_20 (by decide) ?_
        refine lv_isub hx hb dX2_isInsidePair_21 ?_
        refine wd_iald hx hb hK.1 hW 0 ha rfl (in_pred c_2 c_13 (by omega)) dX2_isInsidePair_22 ?_
        refine wd_callSi (As := [.int (g (k - 1).toNatClampNeg)]) (rest := []) (c2 := 0) (s2 := 0) ⟨hx, hb, hml, hown, hts⟩ (k_X2_isHigh l D cI cT w sg.heap.size (g (k - 1).toNatClampNeg) ) (va_cwS 1 hts gX2_isInsidePair_X2_isHigh rfl rfl rfl (by decide +kernel) ⟨Nat.le_of_ble_eq_true rfl, Nat.le_of_ble_eq_true rfl⟩) gK_ok hK hW hS hA rfl hl.1 rfl (Nat.le_of_ble_eq_true rfl) dX2_isInsidePair_23 ⟨Nat.le_of_ble_eq_true rfl, Nat.le_of_ble_eq_true rfl⟩ rfl rfl (fun r_23 w_23 H locs hp_23 hW hz hS => ?_)
        obtain ⟨q_r, q_w⟩ := hp_23
        subst r_23
        subst w_23
        refine lv_if_eq (tgt := 42) hx hb dX2_isInsidePair_26 (by decide) (fun c_26 => ?_) (fun c_26 => ?_)
        ·
          have c_26 := j_b0 c_26
          refine lv_iconst (v := 0) hx hb dX2_isInsidePair_42 (by decide) ?_
          refine wd_zret hx hb hr hlocks (Or.inl rfl) hW hS dX2_isInsidePair_43 ?_
          exact ⟨by first | (simp [j_b, j_ins, c_2, c_7, c_13, c_26]; done) | (simp only [j_b, j_ins, i_le]; simp [c_2, c_7, c_13, c_26]; done) | (exfalso; simp_all; done) | (simp only [j_ins, j_b, i_le, Decidable.not_not]; simp_all), rfl⟩
        ·
          have c_26 := j_bn c_26
          refine lv_aload_n hx hb dX2_isInsidePair_29 rfl (lv_at hl 0 rfl) ?_
          refine lv_iload_n hx hb dX2_isInsidePair_30 rfl (lv_at hl 2 rfl) ?_
          refine wd_iald hx hb hK.1 hW 0 ha rfl (in_k1 c_2 c_13 (by omega)) dX2_isInsidePair_31 ?_
          refine wd_callSi (As := [.int (g k.toNatClampNeg)]) (rest := []) (c2 := 0) (s2 := 0) ⟨hx, hb, hml, hown, hts⟩ (k_X2_isLow l D cI cT w H.size (g k.toNatClampNeg) ) (va_cwS 1 hts gX2_isInsidePair_X2_isLow rfl rfl rfl (by decide +kernel) ⟨Nat.le_of_ble_eq_true rfl, Nat.le_of_ble_eq_true rfl⟩) gK_ok hK hW hS hA rfl hl.1 rfl (Nat.le_of_ble_eq_true rfl) dX2_isInsidePair_32 ⟨Nat.le_of_ble_eq_true rfl, Nat.le_of_ble_eq_true rfl⟩ rfl rfl (fun r_32 w_32 H locs hp_32 hW hz hS => ?_)
          obtain ⟨q_r, q_w⟩ := hp_32
          subst r_32
          subst w_32
          refine lv_if_eq (tgt := 42) hx hb dX2_isInsidePair_35 (by decide) (fun c_35 => ?_) (fun c_35 => ?_)
          ·
            have c_35 := j_b0 c_35
            refine lv_iconst (v := 0) hx hb dX2_isInsidePair_42 (by decide) ?_
            refine wd_zret hx hb hr hlocks (Or.inl rfl) hW hS dX2_isInsidePair_43 ?_
            exact ⟨by first | (simp [j_b, j_ins, c_2, c_7, c_13, c_26, c_35]; done) | (simp only [j_b, j_ins, i_le]; simp [c_2, c_7, c_13, c_26, c_35]; done) | (exfalso; simp_all; done) | (simp only [j_ins, j_b, i_le, Decidable.not_not]; simp_all), rfl⟩
          ·
            have c_35 := j_bn c_35
            refine lv_iconst (v := 1) hx hb dX2_isInsidePair_38 (by decide) ?_
            refine lv_goto (tgt := 43) hx hb dX2_isInsidePair_39 (by decide) ?_
            refine wd_zret hx hb hr hlocks (Or.inr rfl) hW hS dX2_isInsidePair_43 ?_
            exact ⟨by first | (simp [j_b, j_ins, c_2, c_7, c_13, c_26, c_35]; done) | (simp only [j_b, j_ins, i_le]; simp [c_2, c_7, c_13, c_26, c_35]; done) | (exfalso; simp_all; done) | (simp only [j_ins, j_b, i_le, Decidable.not_not]; simp_all), rfl⟩
      ·
        refine lv_iconst (v := 0) hx hb dX2_isInsidePair_16 (by decide) ?_
        refine wd_zret hx hb hr hlocks (Or.inl rfl) hW hS dX2_isInsidePair_17 ?_
        exact ⟨by first | (simp [j_b, j_ins, c_2, c_7, c_13]; done) | (simp only [j_b, j_ins, i_le]; simp [c_2, c_7, c_13]; done) | (exfalso; simp_all; done) | (simp only [j_ins, j_b, i_le, Decidable.not_not]; simp_all), rfl⟩
set_option maxHeartbeats 4000000 in
set_option maxRecDepth 100000 in
theorem k_X2_pairedPoint (l : Launch) (D : va_G) (cI cT : ClassId) (w : Wd) (sz : Nat) (a : Nat) (len : Nat) (g : Nat → Int32) (k : Int32) (ha : w a = some (e_ints cI len g)) (hlen : len ≤ 5760) : wd_Mi l D vwCl (gK D cI cT) yX2_pairedPoint wsX2_pairedPoint (wd_rm 0 0 0) [.ref a, .int k] w sz (fun r w' => r = j_pp g len k ∧ w' = w) := by
  refine wd_met (cc := cX2_pairedPoint) (maxL := 2) (ret := (some .int)) (by decide) rfl (Nat.le_of_ble_eq_true rfl) ?_
  intro pg ev sg mi bl mt cde ls C0 hsz hK hW hl
  obtain ⟨hx, hb, hr, hml, hown, hts, hlocks, hnm⟩ := C0
  subst hsz
  have hown : sg.vm.findClass RX2 = some mi.cls := hown
  have hS : va_S (wd_A w sg.heap.size) sg.heap sg.heap [] := va_S.rf
  have hA : ∀ q, sg.heap.size ≤ q → wd_A w sg.heap.size q := fun q h => Or.inr h
  have hl : lv_has ls 2 [(0, .ref a), (1, .int k)] := hl
  refine lv_iload_n hx hb dX2_pairedPoint_0 rfl (lv_at hl 1 rfl) ?_
  refine lv_if_lt (tgt := 12) hx hb dX2_pairedPoint_1 (by decide) (fun c_1 => ?_) (fun c_1 => ?_)
  ·
    refine lv_iconst (v := 0) hx hb dX2_pairedPoint_12 (by decide) ?_
    refine wd_iret hx hb hr hlocks hW hS dX2_pairedPoint_13 ?_
    exact ⟨by first | (simp [j_pp, c_1]; done) | (simp only [j_pp, i_le]; simp [c_1]; done) | (exfalso; simp_all; done) | (simp only [j_pp, i_le, Decidable.not_not]; simp_all), rfl⟩
  ·
    refine lv_iload_n hx hb dX2_pairedPoint_4 rfl (lv_at hl 1 rfl) ?_
    refine lv_aload_n hx hb dX2_pairedPoint_5 rfl (lv_at hl 0 rfl) ?_
    refine wd_alen hx hb hK.1 hW 0 ha rfl dX2_pairedPoint_6 ?_
    refine lv_iconst (v := 1) hx hb dX2_pairedPoint_7 (by decide) ?_
    refine lv_isub hx hb dX2_pairedPoint_8 ?_
    refine lv_icmp_lt (tgt := 14) hx hb dX2_pairedPoint_9 (by decide) (fun c_9 => ?_) (fun c_9 => ?_)
    ·
      refine lv_ldc (v := 65536) hx hb hown (hts (.constant RX2 173 65536) (by decide +kernel)) dX2_pairedPoint_14 ?_
      refine lv_aload_n hx hb dX2_pairedPoint_16 rfl (lv_at hl 0 rfl) ?_
      refine lv_iload_n hx hb dX2_pairedPoint_17 rfl (lv_at hl 1 rfl) ?_
      refine wd_iald hx hb hK.1 hW 0 ha rfl (in_m1 c_1 c_9 (by omega)).1 dX2_pairedPoint_18 ?_
      refine lv_ldc (v := 55296) hx hb hown (hts (.constant RX2 182 55296) (by decide +kernel)) dX2_pairedPoint_19 ?_
      refine lv_isub hx hb dX2_pairedPoint_21 ?_
      refine lv_sipush (v := 1024) hx hb dX2_pairedPoint_22 (by decide) ?_
      refine lv_imul hx hb dX2_pairedPoint_25 ?_
      refine lv_iadd hx hb dX2_pairedPoint_26 ?_
      refine lv_aload_n hx hb dX2_pairedPoint_27 rfl (lv_at hl 0 rfl) ?_
      refine lv_iload_n hx hb dX2_pairedPoint_28 rfl (lv_at hl 1 rfl) ?_
      refine lv_iconst (v := 1) hx hb dX2_pairedPoint_29 (by decide) ?_
      refine lv_iadd hx hb dX2_pairedPoint_30 ?_
      refine wd_iald hx hb hK.1 hW 0 ha rfl (in_m1 c_1 c_9 (by omega)).2 dX2_pairedPoint_31 ?_
      refine lv_ldc (v := 56320) hx hb hown (hts (.constant RX2 183 56320) (by decide +kernel)) dX2_pairedPoint_32 ?_
      refine lv_isub hx hb dX2_pairedPoint_34 ?_
      refine lv_iadd hx hb dX2_pairedPoint_35 ?_
      refine wd_iret hx hb hr hlocks hW hS dX2_pairedPoint_36 ?_
      exact ⟨by first | (simp [j_pp, c_1, c_9]; done) | (simp only [j_pp, i_le]; simp [c_1, c_9]; done) | (exfalso; simp_all; done) | (simp only [j_pp, i_le, Decidable.not_not]; simp_all), rfl⟩
    ·
      refine lv_iconst (v := 0) hx hb dX2_pairedPoint_12 (by decide) ?_
      refine wd_iret hx hb hr hlocks hW hS dX2_pairedPoint_13 ?_
      exact ⟨by first | (simp [j_pp, c_1, c_9]; done) | (simp only [j_pp, i_le]; simp [c_1, c_9]; done) | (exfalso; simp_all; done) | (simp only [j_pp, i_le, Decidable.not_not]; simp_all), rfl⟩
set_option maxHeartbeats 4000000 in
set_option maxRecDepth 100000 in
theorem k_X0_empty (l : Launch) (D : va_G) (cI cT : ClassId) (w : Wd) (sz : Nat) (r : Nat) (rI : Nat) (n : Nat) (X : Rw) (hR : rowAt w r rI cI n X) : wd_Mv l D vwCl (gK D cI cT) yX0_empty wsX0_empty (wd_rm 0 0 0) [.ref r] w sz (fun w' => w' = rowSet w r rI cI n (r_nil X)) := by
  refine wd_met (cc := cX0_empty) (maxL := 1) (ret := none) (by decide) rfl (Nat.le_of_ble_eq_true rfl) ?_
  intro pg ev sg mi bl mt cde ls C0 hsz hK hW hl
  obtain ⟨hx, hb, hr, hml, hown, hts, hlocks, hnm⟩ := C0
  subst hsz
  have hown : sg.vm.findClass RX0 = some mi.cls := hown
  have hS : va_S (wd_A w sg.heap.size) sg.heap sg.heap [] := va_S.rf
  have hA : ∀ q, sg.heap.size ≤ q → wd_A w sg.heap.size q := fun q h => Or.inr h
  have hl : lv_has ls 1 [(0, .ref r)] := hl
  refine lv_aload_n hx hb dX0_empty_0 rfl (lv_at hl 0 rfl) ?_
  refine lv_iconst (v := 0) hx hb dX0_empty_1 (by decide) ?_
  refine wd_put (ci := 0) (v := .int 0) (ty := .int) (C := RX0) (T := TX0) (N := 2) hx hb hts (by decide +kernel) tyX0 tyX0_ok nmX0 hown hK.1 hW hS hR.1 rfl 1 (by decide) (hts (.fieldLink RX0 15 "CharRows$Row" "count" "I") (by decide +kernel)) (fun _ h9 => h9) rfl (by decide +kernel) rfl rfl (Nat.le_of_ble_eq_true rfl) dX0_empty_2 (fun H locs hW hS => ?_)
  have f1_r : (wd_up w r (.inr (0, [.ref rI, .int 0]))) r = some (.inr (0, [.ref rI, .int 0])) := wd_up_self _ _ _
  have f1_rI : (wd_up w r (.inr (0, [.ref rI, .int 0]))) rI = some (.inl (cI, n, .inl X.1)) := (wd_up_ne _ _ (wd_ne hR.2.1 hR.1 (by intro h9; cases h9))).trans hR.2.1
  refine wd_vret hx hb hr hlocks hW hS dX0_empty_5 ?_
  show _ = _
  funext q
  by_cases h1 : q = r
  · subst h1; rw [wd_up_self, rowSet, wd_up_self]; rfl
  · rw [wd_up_ne _ _ h1, rowSet, wd_up_ne _ _ h1]
    by_cases h2 : q = rI
    · subst h2; rw [wd_up_self, hR.2.1]; rfl
    · rw [wd_up_ne _ _ h2]
set_option maxHeartbeats 4000000 in
set_option maxRecDepth 100000 in
theorem k_X0_add (l : Launch) (D : va_G) (cI cT : ClassId) (w : Wd) (sz : Nat) (r : Nat) (rI : Nat) (n : Nat) (X : Rw) (x : Int32) (hR : rowAt w r rI cI n X) : wd_Mv l D vwCl (gK D cI cT) yX0_add wsX0_add (wd_rm 0 0 0) [.ref r, .int x] w sz (fun w' => w' = rowSet w r rI cI n (r_add n x X)) := by
  refine wd_met (cc := cX0_add) (maxL := 2) (ret := none) (by decide) rfl (Nat.le_of_ble_eq_true rfl) ?_
  intro pg ev sg mi bl mt cde ls C0 hsz hK hW hl
  obtain ⟨hx, hb, hr, hml, hown, hts, hlocks, hnm⟩ := C0
  subst hsz
  have hown : sg.vm.findClass RX0 = some mi.cls := hown
  have hS : va_S (wd_A w sg.heap.size) sg.heap sg.heap [] := va_S.rf
  have hA : ∀ q, sg.heap.size ≤ q → wd_A w sg.heap.size q := fun q h => Or.inr h
  have hl : lv_has ls 2 [(0, .ref r), (1, .int x)] := hl
  have hX1 := hR.2.2.1
  have hX2 := hR.2.2.2
  refine lv_aload_n hx hb dX0_add_0 rfl (lv_at hl 0 rfl) ?_
  refine wd_get (ci := 0) (v := .int (nI X.2)) (C := RX0) (T := TX0) (N := 2) hx hb hts (by decide +kernel) hown hK.1 hW hR.1 rfl 1 (by decide) (hts (.fieldLink RX0 15 "CharRows$Row" "count" "I") (by decide +kernel)) (fun _ h9 => h9) rfl dX0_add_1 ?_
  refine lv_if_lt (tgt := 39) hx hb dX0_add_4 (by decide) (fun c_4 => ?_) (fun c_4 => ?_)
  ·
    exact absurd c_4 (nI_pos (by omega))
  ·
    have c_4 : ¬ (X.2 < 0) := fun q9 => absurd ((nI_ltI (by omega) (by omega)).mpr q9) (show ¬ (nI X.2 < nI 0) from c_4)
    refine lv_aload_n hx hb dX0_add_7 rfl (lv_at hl 0 rfl) ?_
    refine wd_get (ci := 0) (v := .int (nI X.2)) (C := RX0) (T := TX0) (N := 2) hx hb hts (by decide +kernel) hown hK.1 hW hR.1 rfl 1 (by decide) (hts (.fieldLink RX0 15 "CharRows$Row" "count" "I") (by decide +kernel)) (fun _ h9 => h9) rfl dX0_add_8 ?_
    refine lv_aload_n hx hb dX0_add_11 rfl (lv_at hl 0 rfl) ?_
    refine wd_get (ci := 0) (v := .ref rI) (C := RX0) (T := TX0) (N := 2) hx hb hts (by decide +kernel) hown hK.1 hW hR.1 rfl 0 (by decide) (hts (.fieldLink RX0 9 "CharRows$Row" "items" "[I") (by decide +kernel)) (fun _ h9 => h9) rfl dX0_add_12 ?_
    refine wd_alen hx hb hK.1 hW 0 hR.2.1 rfl dX0_add_15 ?_
    refine lv_icmp_ge (tgt := 39) hx hb dX0_add_16 (by decide) (fun c_16 => ?_) (fun c_16 => ?_)
    ·
      have c_16 : n ≤ X.2 := (nI_leI (by omega) (by omega)).mp (show (nI n ≤ nI X.2) from c_16)
      refine wd_vret hx hb hr hlocks hW hS dX0_add_39 ?_
      show _ = _
      rw [r_add, if_neg (by omega), rowSet_self hR]
    ·
      have c_16 : ¬ (n ≤ X.2) := fun q9 => absurd ((nI_leI (by omega) (by omega)).mpr q9) (show ¬ (nI n ≤ nI X.2) from c_16)
      refine lv_aload_n hx hb dX0_add_19 rfl (lv_at hl 0 rfl) ?_
      refine wd_get (ci := 0) (v := .ref rI) (C := RX0) (T := TX0) (N := 2) hx hb hts (by decide +kernel) hown hK.1 hW hR.1 rfl 0 (by decide) (hts (.fieldLink RX0 9 "CharRows$Row" "items" "[I") (by decide +kernel)) (fun _ h9 => h9) rfl dX0_add_20 ?_
      refine lv_aload_n hx hb dX0_add_23 rfl (lv_at hl 0 rfl) ?_
      refine wd_get (ci := 0) (v := .int (nI X.2)) (C := RX0) (T := TX0) (N := 2) hx hb hts (by decide +kernel) hown hK.1 hW hR.1 rfl 1 (by decide) (hts (.fieldLink RX0 15 "CharRows$Row" "count" "I") (by decide +kernel)) (fun _ h9 => h9) rfl dX0_add_24 ?_
      refine lv_iload_n hx hb dX0_add_27 rfl (lv_at hl 1 rfl) ?_
      refine wd_iast hx hb hK.1 hW hS 0 hR.2.1 rfl (vp_in_nI (by omega) (by omega)) dX0_add_28 (fun H locs hW hS => ?_)
      rw [nI_clamp (by omega)] at hW
      have f1_r : (wd_up w rI (.inl (cI, n, .inl (upd X.1 X.2 x)))) r = some (.inr (0, [.ref rI, .int (nI X.2)])) := (wd_up_ne _ _ (wd_ne hR.1 hR.2.1 (by intro h9; cases h9))).trans hR.1
      have f1_rI : (wd_up w rI (.inl (cI, n, .inl (upd X.1 X.2 x)))) rI = some (.inl (cI, n, .inl (upd X.1 X.2 x))) := wd_up_self _ _ _
      refine lv_aload_n hx hb dX0_add_29 rfl (lv_at hl 0 rfl) ?_
      refine lv_dup hx hb dX0_add_30 rfl ?_
      refine wd_get (ci := 0) (v := .int (nI X.2)) (C := RX0) (T := TX0) (N := 2) hx hb hts (by decide +kernel) hown hK.1 hW f1_r rfl 1 (by decide) (hts (.fieldLink RX0 15 "CharRows$Row" "count" "I") (by decide +kernel)) (fun _ h9 => h9) rfl dX0_add_31 ?_
      refine lv_iconst (v := 1) hx hb dX0_add_34 (by decide) ?_
      refine lv_iadd hx hb dX0_add_35 ?_
      refine wd_topE (y := nI (X.2 + 1)) (nI_1 _) ?_
      refine wd_put (ci := 0) (v := .int (nI (X.2 + 1))) (ty := .int) (C := RX0) (T := TX0) (N := 2) hx hb hts (by decide +kernel) tyX0 tyX0_ok nmX0 hown hK.1 hW hS f1_r rfl 1 (by decide) (hts (.fieldLink RX0 15 "CharRows$Row" "count" "I") (by decide +kernel)) (fun _ h9 => h9) rfl (by decide +kernel) rfl rfl (Nat.le_of_ble_eq_true rfl) dX0_add_36 (fun H locs hW hS => ?_)
      have f2_r : (wd_up (wd_up w rI (.inl (cI, n, .inl (upd X.1 X.2 x)))) r (.inr (0, [.ref rI, .int (nI (X.2 + 1))]))) r = some (.inr (0, [.ref rI, .int (nI (X.2 + 1))])) := wd_up_self _ _ _
      have f2_rI : (wd_up (wd_up w rI (.inl (cI, n, .inl (upd X.1 X.2 x)))) r (.inr (0, [.ref rI, .int (nI (X.2 + 1))]))) rI = some (.inl (cI, n, .inl (upd X.1 X.2 x))) := (wd_up_ne _ _ (wd_ne f1_rI f1_r (by intro h9; cases h9))).trans f1_rI
      refine wd_vret hx hb hr hlocks hW hS dX0_add_39 ?_
      show _ = _
      rw [r_add, if_pos (Nat.lt_of_not_le c_16)]
      rfl
set_option maxHeartbeats 4000000 in
set_option maxRecDepth 100000 in
theorem k_X0_addUnitsOf (l : Launch) (D : va_G) (cI cT : ClassId) (w : Wd) (sz : Nat) (r : Nat) (rI : Nat) (n : Nat) (X : Rw) (p : Int32) (hR : rowAt w r rI cI n X) : wd_Mv l D vwCl (gK D cI cT) yX0_addUnitsOf wsX0_addUnitsOf (wd_rm 1 0 0) [.ref r, .int p] w sz (fun w' => w' = rowSet w r rI cI n (r_uni n p X)) := by
  refine wd_met (cc := cX0_addUnitsOf) (maxL := 3) (ret := none) (by decide) rfl (Nat.le_of_ble_eq_true rfl) ?_
  intro pg ev sg mi bl mt cde ls C0 hsz hK hW hl
  obtain ⟨hx, hb, hr, hml, hown, hts, hlocks, hnm⟩ := C0
  subst hsz
  have hown : sg.vm.findClass RX0 = some mi.cls := hown
  have hS : va_S (wd_A w sg.heap.size) sg.heap sg.heap [] := va_S.rf
  have hA : ∀ q, sg.heap.size ≤ q → wd_A w sg.heap.size q := fun q h => Or.inr h
  have hl : lv_has ls 3 [(0, .ref r), (1, .int p)] := hl
  refine lv_iload_n hx hb dX0_addUnitsOf_0 rfl (lv_at hl 1 rfl) ?_
  refine lv_ldc (v := 65536) hx hb hown (hts (.constant RX0 23 65536) (by decide +kernel)) dX0_addUnitsOf_1 ?_
  refine lv_icmp_ge (tgt := 12) hx hb dX0_addUnitsOf_3 (by decide) (fun c_3 => ?_) (fun c_3 => ?_)
  ·
    simp only [i_le, Decidable.not_not] at c_3
    refine lv_iload_n hx hb dX0_addUnitsOf_12 rfl (lv_at hl 1 rfl) ?_
    refine lv_ldc (v := 65536) hx hb hown (hts (.constant RX0 23 65536) (by decide +kernel)) dX0_addUnitsOf_13 ?_
    refine lv_isub hx hb dX0_addUnitsOf_15 ?_
    refine lv_istore_n (lv' := [(2, .int (p - 65536)), (0, .ref r), (1, .int p)]) hx hb dX0_addUnitsOf_16 rfl hl (by decide) rfl (fun ls hl => ?_)
    refine lv_aload_n hx hb dX0_addUnitsOf_17 rfl (lv_at hl 1 rfl) ?_
    refine lv_ldc (v := 55296) hx hb hown (hts (.constant RX0 24 55296) (by decide +kernel)) dX0_addUnitsOf_18 ?_
    refine lv_iload_n hx hb dX0_addUnitsOf_20 rfl (lv_at hl 0 rfl) ?_
    refine lv_sipush (v := 1024) hx hb dX0_addUnitsOf_21 (by decide) ?_
    refine lv_idiv hx hb dX0_addUnitsOf_24 (by decide) ?_
    refine lv_iadd hx hb dX0_addUnitsOf_25 ?_
    refine wd_callVv (As := [.int (55296 + ((p - 65536) / 1024))]) (rest := []) (c2 := 0) (s2 := 0) ⟨hx, hb, hml, hown, hts⟩ (k_X0_add l D cI cT w sg.heap.size r rI n X (55296 + ((p - 65536) / 1024)) hR) (cwV 1 hts gX0_addUnitsOf_X0_add rfl rfl rfl (by decide +kernel) ⟨Nat.le_of_ble_eq_true rfl, Nat.le_of_ble_eq_true rfl⟩) gK_ok hK hW (wd_recv (ci := 0) hK.1 hW rfl hR.1) hS hA rfl hl.1 rfl (Nat.le_of_ble_eq_true rfl) dX0_addUnitsOf_26 ⟨Nat.le_of_ble_eq_true rfl, Nat.le_of_ble_eq_true rfl⟩ rfl rfl (fun w_26 H locs hp_26 hW hz hS => ?_)
    subst w_26
    have hR_26 : rowAt (rowSet w r rI cI n (r_add n (55296 + ((p - 65536) / 1024)) X)) r rI cI n (r_add n (55296 + ((p - 65536) / 1024)) X) := rowSet_at hR.ne (r_add_le hR.2.2.1) hR.2.2.2
    refine lv_aload_n hx hb dX0_addUnitsOf_29 rfl (lv_at hl 1 rfl) ?_
    refine lv_ldc (v := 56320) hx hb hown (hts (.constant RX0 25 56320) (by decide +kernel)) dX0_addUnitsOf_30 ?_
    refine lv_iload_n hx hb dX0_addUnitsOf_32 rfl (lv_at hl 0 rfl) ?_
    refine lv_sipush (v := 1024) hx hb dX0_addUnitsOf_33 (by decide) ?_
    refine lv_irem hx hb dX0_addUnitsOf_36 (by decide) ?_
    refine lv_iadd hx hb dX0_addUnitsOf_37 ?_
    refine wd_callVv (As := [.int (56320 + ((p - 65536) - (p - 65536) / 1024 * 1024))]) (rest := []) (c2 := 0) (s2 := 0) ⟨hx, hb, hml, hown, hts⟩ (k_X0_add l D cI cT (rowSet w r rI cI n (r_add n (55296 + ((p - 65536) / 1024)) X)) H.size r rI n (r_add n (55296 + ((p - 65536) / 1024)) X) (56320 + ((p - 65536) - (p - 65536) / 1024 * 1024)) hR_26) (cwV 1 hts gX0_addUnitsOf_X0_add rfl rfl rfl (by decide +kernel) ⟨Nat.le_of_ble_eq_true rfl, Nat.le_of_ble_eq_true rfl⟩) gK_ok hK hW (wd_recv (ci := 0) hK.1 hW rfl hR_26.1) hS hA rfl hl.1 rfl (Nat.le_of_ble_eq_true rfl) dX0_addUnitsOf_38 ⟨Nat.le_of_ble_eq_true rfl, Nat.le_of_ble_eq_true rfl⟩ rfl rfl (fun w_38 H locs hp_38 hW hz hS => ?_)
    subst w_38
    rw [rowSet_twice] at hW
    have hR_38 : rowAt (rowSet w r rI cI n (r_add n (56320 + ((p - 65536) - (p - 65536) / 1024 * 1024)) (r_add n (55296 + ((p - 65536) / 1024)) X))) r rI cI n (r_add n (56320 + ((p - 65536) - (p - 65536) / 1024 * 1024)) (r_add n (55296 + ((p - 65536) / 1024)) X)) := rowSet_at hR_26.ne (r_add_le hR_26.2.2.1) hR_26.2.2.2
    refine wd_vret hx hb hr hlocks hW hS dX0_addUnitsOf_41 ?_
    show _ = _
    rw [r_uni, if_neg (by simpa using c_3)]
  ·
    simp only [i_le, Decidable.not_not] at c_3
    refine lv_aload_n hx hb dX0_addUnitsOf_6 rfl (lv_at hl 0 rfl) ?_
    refine lv_iload_n hx hb dX0_addUnitsOf_7 rfl (lv_at hl 1 rfl) ?_
    refine wd_callVv (As := [.int p]) (rest := []) (c2 := 0) (s2 := 0) ⟨hx, hb, hml, hown, hts⟩ (k_X0_add l D cI cT w sg.heap.size r rI n X p hR) (cwV 1 hts gX0_addUnitsOf_X0_add rfl rfl rfl (by decide +kernel) ⟨Nat.le_of_ble_eq_true rfl, Nat.le_of_ble_eq_true rfl⟩) gK_ok hK hW (wd_recv (ci := 0) hK.1 hW rfl hR.1) hS hA rfl hl.1 rfl (Nat.le_of_ble_eq_true rfl) dX0_addUnitsOf_8 ⟨Nat.le_of_ble_eq_true rfl, Nat.le_of_ble_eq_true rfl⟩ rfl rfl (fun w_8 H locs hp_8 hW hz hS => ?_)
    subst w_8
    have hR_8 : rowAt (rowSet w r rI cI n (r_add n p X)) r rI cI n (r_add n p X) := rowSet_at hR.ne (r_add_le hR.2.2.1) hR.2.2.2
    refine wd_vret hx hb hr hlocks hW hS dX0_addUnitsOf_11 ?_
    show _ = _
    rw [r_uni, if_pos (by simpa using c_3)]
set_option maxHeartbeats 4000000 in
set_option maxRecDepth 100000 in
theorem k_X0_addAll (l : Launch) (D : va_G) (cI cT : ClassId) (w : Wd) (sz : Nat) (r : Nat) (rI : Nat) (n : Nat) (X : Rw) (a : Nat) (len : Nat) (g : Nat → Int32) (hR : rowAt w r rI cI n X) (ha : w a = some (e_ints cI len g)) (hlen : len ≤ 5760) (hne : a ≠ rI) : wd_Mv l D vwCl (gK D cI cT) yX0_addAll wsX0_addAll (wd_rm 1 0 0) [.ref r, .ref a] w sz (fun w' => w' = rowSet w r rI cI n (r_all n g len X)) := by
  refine wd_met (cc := cX0_addAll) (maxL := 3) (ret := none) (by decide) rfl (Nat.le_of_ble_eq_true rfl) ?_
  intro pg ev sg mi bl mt cde ls C0 hsz hK hW hl
  obtain ⟨hx, hb, hr, hml, hown, hts, hlocks, hnm⟩ := C0
  subst hsz
  have hown : sg.vm.findClass RX0 = some mi.cls := hown
  have hS : va_S (wd_A w sg.heap.size) sg.heap sg.heap [] := va_S.rf
  have hA : ∀ q, sg.heap.size ≤ q → wd_A w sg.heap.size q := fun q h => Or.inr h
  have hl : lv_has ls 3 [(0, .ref r), (1, .ref a)] := hl
  refine lv_iconst (v := 0) hx hb dX0_addAll_0 (by decide) ?_
  refine lv_istore_n (lv' := [(2, .int 0), (0, .ref r), (1, .ref a)]) hx hb dX0_addAll_1 rfl hl (by decide) rfl (fun ls hl => ?_)
  refine wd_loop1 (fun (k : Nat) (H : Heap) (locs : List Loc) (ls : Array Slot) => (k ≤ len) ∧ wd_P D vwCl (wd_A w sg.heap.size) (rowSet w r rI cI n (r_all n g k X)) H ∧ va_S (wd_A w sg.heap.size) sg.heap H locs ∧ lv_has ls 3 [(0, .ref r), (1, .ref a), (2, .int (nI k))]) (fun (k : Nat) => len - k) 0 ⟨Nat.zero_le _, (by rw [show r_all n g 0 X = X from rfl, rowSet_self hR]; exact hW), hS, (lv_sub hl [1, 2, 0] rfl)⟩ (fun k H locs ls hI ih_2 => ?_)
  obtain ⟨hk, hW, hS, hl⟩ := hI
  have hRk : rowAt (rowSet w r rI cI n (r_all n g k X)) r rI cI n (r_all n g k X) := rowSet_at hR.ne (r_all_le hR.2.2.1) hR.2.2.2
  have fo_a_k : (rowSet w r rI cI n (r_all n g k X)) a = some (.inl (cI, len, .inl g)) := (rowSet_ne (wd_ne ha hR.1 (by intro h9; cases h9)) hne).trans ha
  refine lv_iload_n hx hb dX0_addAll_2 rfl (lv_at hl 2 rfl) ?_
  refine lv_aload_n hx hb dX0_addAll_3 rfl (lv_at hl 1 rfl) ?_
  refine wd_alen hx hb hK.1 hW 0 fo_a_k rfl dX0_addAll_4 ?_
  refine lv_icmp_ge (tgt := 21) hx hb dX0_addAll_5 (by decide) (fun c_5 => ?_) (fun c_5 => ?_)
  ·
    have c_5 : len ≤ k := (nI_leI (by omega) (by omega)).mp (show (nI len ≤ nI k) from c_5)
    refine wd_vret hx hb hr hlocks hW hS dX0_addAll_21 ?_
    show _ = _
    rw [show len = k by omega]
  ·
    have c_5 : ¬ (len ≤ k) := fun q9 => absurd ((nI_leI (by omega) (by omega)).mpr q9) (show ¬ (nI len ≤ nI k) from c_5)
    refine lv_aload_n hx hb dX0_addAll_8 rfl (lv_at hl 0 rfl) ?_
    refine lv_aload_n hx hb dX0_addAll_9 rfl (lv_at hl 1 rfl) ?_
    refine lv_iload_n hx hb dX0_addAll_10 rfl (lv_at hl 2 rfl) ?_
    refine wd_iald hx hb hK.1 hW 0 fo_a_k rfl (vp_in_nI (by omega) (by omega)) dX0_addAll_11 ?_
    refine wd_topE (y := g k) (by rw [nI_clamp (by omega)]) ?_
    refine wd_callVv (As := [.int (g k)]) (rest := []) (c2 := 0) (s2 := 0) ⟨hx, hb, hml, hown, hts⟩ (k_X0_add l D cI cT (rowSet w r rI cI n (r_all n g k X)) H.size r rI n (r_all n g k X) (g k) hRk) (cwV 1 hts gX0_addAll_X0_add rfl rfl rfl (by decide +kernel) ⟨Nat.le_of_ble_eq_true rfl, Nat.le_of_ble_eq_true rfl⟩) gK_ok hK hW (wd_recv (ci := 0) hK.1 hW rfl hRk.1) hS hA rfl hl.1 rfl (Nat.le_of_ble_eq_true rfl) dX0_addAll_12 ⟨Nat.le_of_ble_eq_true rfl, Nat.le_of_ble_eq_true rfl⟩ rfl rfl (fun w_12 H locs hp_12 hW hz hS => ?_)
    subst w_12
    rw [rowSet_twice] at hW
    have hR_12 : rowAt (rowSet w r rI cI n (r_add n (g k) (r_all n g k X))) r rI cI n (r_add n (g k) (r_all n g k X)) := rowSet_at hRk.ne (r_add_le hRk.2.2.1) hRk.2.2.2
    have fo_a_12 : (rowSet w r rI cI n (r_add n (g k) (r_all n g k X))) a = some (.inl (cI, len, .inl g)) := (rowSet_ne (wd_ne ha hR.1 (by intro h9; cases h9)) hne).trans ha
    refine lv_iinc (v := nI (k + 1)) (lv' := [(2, .int (nI (k + 1))), (0, .ref r), (1, .ref a)]) hx hb dX0_addAll_15 hl (k := 2) rfl (nI_add k 1) (by decide) rfl (fun ls hl => ?_)
    refine lv_goto (tgt := 2) hx hb dX0_addAll_18 (by decide) ?_
    exact ih_2 (k + 1) H locs ls ⟨(by omega), hW, hS, (lv_sub hl [1, 2, 0] rfl)⟩ (by omega)
