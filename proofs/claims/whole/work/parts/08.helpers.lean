set_option maxHeartbeats 4000000 in
set_option maxRecDepth 100000 in
theorem k_X0_addPointsOf (l : Launch) (D : va_G) (cI cT : ClassId) (w : Wd) (sz : Nat) (r : Nat) (rI : Nat) (n : Nat) (X : Rw) (a : Nat) (len : Nat) (g : Nat → Int32) (mm : Nat) (hR : rowAt w r rI cI n X) (ha : w a = some (e_ints cI len g)) (hlen : len ≤ 5760) (hne : a ≠ rI) (hmm : mm < 2 ^ 31) : wd_Mv l D vwCl (gK D cI cT) yX0_addPointsOf wsX0_addPointsOf (wd_rm 2 0 0) [.ref r, .ref a, .int (nI mm)] w sz (fun w' => w' = rowSet w r rI cI n (r_pts n g len mm X)) := by
  refine wd_met (cc := cX0_addPointsOf) (maxL := 4) (ret := none) (by decide) rfl (Nat.le_of_ble_eq_true rfl) ?_
  intro pg ev sg mi bl mt cde ls C0 hsz hK hW hl
  obtain ⟨hx, hb, hr, hml, hown, hts, hlocks, hnm⟩ := C0
  subst hsz
  have hown : sg.vm.findClass RX0 = some mi.cls := hown
  have hS : va_S (wd_A w sg.heap.size) sg.heap sg.heap [] := va_S.rf
  have hA : ∀ q, sg.heap.size ≤ q → wd_A w sg.heap.size q := fun q h => Or.inr h
  have hl : lv_has ls 4 [(0, .ref r), (1, .ref a), (2, .int (nI mm))] := hl
  refine lv_iconst (v := 0) hx hb dX0_addPointsOf_0 (by decide) ?_
  refine lv_istore_n (lv' := [(3, .int 0), (0, .ref r), (1, .ref a), (2, .int (nI mm))]) hx hb dX0_addPointsOf_1 rfl hl (by decide) rfl (fun ls hl => ?_)
  refine wd_loop1 (fun (k : Nat) (H : Heap) (locs : List Loc) (ls : Array Slot) => (k ≤ min mm len) ∧ wd_P D vwCl (wd_A w sg.heap.size) (rowSet w r rI cI n (itN (r_pt1 n g len (nI mm)) k X)) H ∧ va_S (wd_A w sg.heap.size) sg.heap H locs ∧ lv_has ls 4 [(0, .ref r), (1, .ref a), (2, .int (nI mm)), (3, .int (nI k))]) (fun (k : Nat) => mm - k) 0 ⟨Nat.zero_le _, (by rw [show itN (r_pt1 n g len (nI mm)) 0 X = X from rfl, rowSet_self hR]; exact hW), hS, (lv_sub hl [1, 2, 3, 0] rfl)⟩ (fun k H locs ls hI ih => ?_)
  obtain ⟨hk, hW, hS, hl⟩ := hI
  have hRk : rowAt (rowSet w r rI cI n (itN (r_pt1 n g len (nI mm)) k X)) r rI cI n (itN (r_pt1 n g len (nI mm)) k X) := rowSet_at hR.ne (itN_le (fun _ _ h => r_pt1_le h) _ _ hR.2.2.1) hR.2.2.2
  have fo_a_k : (rowSet w r rI cI n (itN (r_pt1 n g len (nI mm)) k X)) a = some (.inl (cI, len, .inl g)) := (rowSet_ne (wd_ne ha hR.1 (by intro h9; cases h9)) hne).trans ha
  refine lv_iload_n hx hb dX0_addPointsOf_2 rfl (lv_at hl 3 rfl) ?_
  refine lv_iload_n hx hb dX0_addPointsOf_3 rfl (lv_at hl 2 rfl) ?_
  refine lv_icmp_ge (tgt := 58) hx hb dX0_addPointsOf_4 (by decide) (fun c_4 => ?_) (fun c_4 => ?_)
  ·
    have c_4 : mm ≤ k := (nI_leI (by omega) (by omega)).mp (show (nI mm ≤ nI k) from c_4)
    refine wd_vret hx hb hr hlocks hW hS dX0_addPointsOf_58 ?_
    show _ = _
    rw [r_pts, show min mm len = k by omega]
  ·
    have c_4 : ¬ (mm ≤ k) := fun q9 => absurd ((nI_leI (by omega) (by omega)).mpr q9) (show ¬ (nI mm ≤ nI k) from c_4)
    refine lv_iload_n hx hb dX0_addPointsOf_7 rfl (lv_at hl 3 rfl) ?_
    refine lv_aload_n hx hb dX0_addPointsOf_8 rfl (lv_at hl 1 rfl) ?_
    refine wd_alen hx hb hK.1 hW 0 fo_a_k rfl dX0_addPointsOf_9 ?_
    refine lv_icmp_ge (tgt := 58) hx hb dX0_addPointsOf_10 (by decide) (fun c_10 => ?_) (fun c_10 => ?_)
    ·
      have c_10 : len ≤ k := (nI_leI (by omega) (by omega)).mp (show (nI len ≤ nI k) from c_10)
      refine wd_vret hx hb hr hlocks hW hS dX0_addPointsOf_58 ?_
      show _ = _
      rw [r_pts, show min mm len = k by omega]
    ·
      have c_10 : ¬ (len ≤ k) := fun q9 => absurd ((nI_leI (by omega) (by omega)).mpr q9) (show ¬ (nI len ≤ nI k) from c_10)
      refine lv_aload_n hx hb dX0_addPointsOf_13 rfl (lv_at hl 1 rfl) ?_
      refine lv_iload_n hx hb dX0_addPointsOf_14 rfl (lv_at hl 2 rfl) ?_
      refine lv_iload_n hx hb dX0_addPointsOf_15 rfl (lv_at hl 3 rfl) ?_
      refine lv_iconst (v := 1) hx hb dX0_addPointsOf_16 (by decide) ?_
      refine lv_iadd hx hb dX0_addPointsOf_17 ?_
      refine wd_callSNi (As := [.ref a, .int (nI mm), .int ((nI k) + 1)]) (rest := []) (c2 := 0) (s2 := 0) ⟨hx, hb, hml, hown, hts⟩ (k_X2_isInsidePair l D cI cT (rowSet w r rI cI n (itN (r_pt1 n g len (nI mm)) k X)) H.size a len g (nI mm) ((nI k) + 1) fo_a_k (by omega)) ⟨va_cnB 3 hts gX0_addPointsOf_X2_isInsidePair_n26 rfl rfl rfl hK.2.2.1 (hts (.initialized RX2) (by decide +kernel)) (by decide +kernel) ⟨Nat.le_of_ble_eq_true rfl, Nat.le_of_ble_eq_true rfl⟩, hts (.static yX2_isInsidePair) (by decide +kernel), trivial⟩ gK_ok hK hW hS hA rfl hl.1 rfl (Nat.le_of_ble_eq_true rfl) dX0_addPointsOf_18 ⟨Nat.le_of_ble_eq_true rfl, Nat.le_of_ble_eq_true rfl⟩ rfl rfl (fun r_18 w_18 H locs hp_18 hW hz hS => ?_)
      obtain ⟨q_r, q_w⟩ := hp_18
      subst r_18
      subst w_18
      refine lv_if_eq (tgt := 36) hx hb dX0_addPointsOf_21 (by decide) (fun c_21 => ?_) (fun c_21 => ?_)
      ·
        have c_21 := j_b0 c_21
        refine lv_aload_n hx hb dX0_addPointsOf_36 rfl (lv_at hl 1 rfl) ?_
        refine lv_iload_n hx hb dX0_addPointsOf_37 rfl (lv_at hl 2 rfl) ?_
        refine lv_iload_n hx hb dX0_addPointsOf_38 rfl (lv_at hl 3 rfl) ?_
        refine wd_callSNi (As := [.ref a, .int (nI mm), .int (nI k)]) (rest := []) (c2 := 0) (s2 := 0) ⟨hx, hb, hml, hown, hts⟩ (k_X2_isInsidePair l D cI cT (rowSet w r rI cI n (itN (r_pt1 n g len (nI mm)) k X)) H.size a len g (nI mm) (nI k) fo_a_k (by omega)) ⟨va_cnB 3 hts gX0_addPointsOf_X2_isInsidePair_n26 rfl rfl rfl hK.2.2.1 (hts (.initialized RX2) (by decide +kernel)) (by decide +kernel) ⟨Nat.le_of_ble_eq_true rfl, Nat.le_of_ble_eq_true rfl⟩, hts (.static yX2_isInsidePair) (by decide +kernel), trivial⟩ gK_ok hK hW hS hA rfl hl.1 rfl (Nat.le_of_ble_eq_true rfl) dX0_addPointsOf_39 ⟨Nat.le_of_ble_eq_true rfl, Nat.le_of_ble_eq_true rfl⟩ rfl rfl (fun r_39 w_39 H locs hp_39 hW hz hS => ?_)
        obtain ⟨q_r, q_w⟩ := hp_39
        subst r_39
        subst w_39
        refine lv_if_ne (tgt := 52) hx hb dX0_addPointsOf_42 (by decide) (fun c_42 => ?_) (fun c_42 => ?_)
        ·
          have c_42 := j_bn c_42
          refine lv_iinc (v := nI (k + 1)) (lv' := [(3, .int (nI (k + 1))), (0, .ref r), (1, .ref a), (2, .int (nI mm))]) hx hb dX0_addPointsOf_52 hl (k := 3) rfl (nI_add k 1) (by decide) rfl (fun ls hl => ?_)
          refine lv_goto (tgt := 2) hx hb dX0_addPointsOf_55 (by decide) ?_
          exact ih (k + 1) H locs ls ⟨(by omega), (by rw [show itN (r_pt1 n g len (nI mm)) (k + 1) X = itN (r_pt1 n g len (nI mm)) k X from by (show r_pt1 n g len (nI mm) k _ = _; rw [r_pt1, if_neg c_21, if_pos c_42])]; exact hW), hS, (lv_sub hl [1, 2, 3, 0] rfl)⟩ (by omega)
        ·
          have c_42 := j_b0 c_42
          refine lv_aload_n hx hb dX0_addPointsOf_45 rfl (lv_at hl 0 rfl) ?_
          refine lv_aload_n hx hb dX0_addPointsOf_46 rfl (lv_at hl 1 rfl) ?_
          refine lv_iload_n hx hb dX0_addPointsOf_47 rfl (lv_at hl 3 rfl) ?_
          refine wd_iald hx hb hK.1 hW 0 fo_a_k rfl (vp_in_nI (by omega) (by omega)) dX0_addPointsOf_48 ?_
          refine wd_topE (y := g k) (by rw [nI_clamp (by omega)]) ?_
          refine wd_callVv (As := [.int (g k)]) (rest := []) (c2 := 0) (s2 := 0) ⟨hx, hb, hml, hown, hts⟩ (k_X0_add l D cI cT (rowSet w r rI cI n (itN (r_pt1 n g len (nI mm)) k X)) H.size r rI n (itN (r_pt1 n g len (nI mm)) k X) (g k) hRk) (cwV 1 hts gX0_addPointsOf_X0_add rfl rfl rfl (by decide +kernel) ⟨Nat.le_of_ble_eq_true rfl, Nat.le_of_ble_eq_true rfl⟩) gK_ok hK hW (wd_recv (ci := 0) hK.1 hW rfl hRk.1) hS hA rfl hl.1 rfl (Nat.le_of_ble_eq_true rfl) dX0_addPointsOf_49 ⟨Nat.le_of_ble_eq_true rfl, Nat.le_of_ble_eq_true rfl⟩ rfl rfl (fun w_49 H locs hp_49 hW hz hS => ?_)
          subst w_49
          rw [rowSet_twice] at hW
          have hR_49 : rowAt (rowSet w r rI cI n (r_add n (g k) (itN (r_pt1 n g len (nI mm)) k X))) r rI cI n (r_add n (g k) (itN (r_pt1 n g len (nI mm)) k X)) := rowSet_at hRk.ne (r_add_le hRk.2.2.1) hRk.2.2.2
          have fo_a_49 : (rowSet w r rI cI n (r_add n (g k) (itN (r_pt1 n g len (nI mm)) k X))) a = some (.inl (cI, len, .inl g)) := (rowSet_ne (wd_ne ha hR.1 (by intro h9; cases h9)) hne).trans ha
          refine lv_iinc (v := nI (k + 1)) (lv' := [(3, .int (nI (k + 1))), (0, .ref r), (1, .ref a), (2, .int (nI mm))]) hx hb dX0_addPointsOf_52 hl (k := 3) rfl (nI_add k 1) (by decide) rfl (fun ls hl => ?_)
          refine lv_goto (tgt := 2) hx hb dX0_addPointsOf_55 (by decide) ?_
          exact ih (k + 1) H locs ls ⟨(by omega), (by rw [show itN (r_pt1 n g len (nI mm)) (k + 1) X = r_add n (g k) (itN (r_pt1 n g len (nI mm)) k X) from by (show r_pt1 n g len (nI mm) k _ = _; rw [r_pt1, if_neg c_21, if_neg c_42])]; exact hW), hS, (lv_sub hl [1, 2, 3, 0] rfl)⟩ (by omega)
      ·
        have c_21 := j_bn c_21
        refine lv_aload_n hx hb dX0_addPointsOf_24 rfl (lv_at hl 0 rfl) ?_
        refine lv_aload_n hx hb dX0_addPointsOf_25 rfl (lv_at hl 1 rfl) ?_
        refine lv_iload_n hx hb dX0_addPointsOf_26 rfl (lv_at hl 3 rfl) ?_
        refine wd_callSNi (As := [.ref a, .int (nI k)]) (rest := [.ref r]) (c2 := 0) (s2 := 0) ⟨hx, hb, hml, hown, hts⟩ (k_X2_pairedPoint l D cI cT (rowSet w r rI cI n (itN (r_pt1 n g len (nI mm)) k X)) H.size a len g (nI k) fo_a_k (by omega)) ⟨va_cnB 2 hts gX0_addPointsOf_X2_pairedPoint_n30 rfl rfl rfl hK.2.2.2.1 (hts (.initialized RX2) (by decide +kernel)) (by decide +kernel) ⟨Nat.le_of_ble_eq_true rfl, Nat.le_of_ble_eq_true rfl⟩, hts (.static yX2_pairedPoint) (by decide +kernel), trivial⟩ gK_ok hK hW hS hA rfl hl.1 rfl (Nat.le_of_ble_eq_true rfl) dX0_addPointsOf_27 ⟨Nat.le_of_ble_eq_true rfl, Nat.le_of_ble_eq_true rfl⟩ rfl rfl (fun r_27 w_27 H locs hp_27 hW hz hS => ?_)
        obtain ⟨q_r, q_w⟩ := hp_27
        subst r_27
        subst w_27
        refine wd_callVv (As := [.int (j_pp g len (nI k))]) (rest := []) (c2 := 0) (s2 := 0) ⟨hx, hb, hml, hown, hts⟩ (k_X0_add l D cI cT (rowSet w r rI cI n (itN (r_pt1 n g len (nI mm)) k X)) H.size r rI n (itN (r_pt1 n g len (nI mm)) k X) (j_pp g len (nI k)) hRk) (cwV 1 hts gX0_addPointsOf_X0_add rfl rfl rfl (by decide +kernel) ⟨Nat.le_of_ble_eq_true rfl, Nat.le_of_ble_eq_true rfl⟩) gK_ok hK hW (wd_recv (ci := 0) hK.1 hW rfl hRk.1) hS hA rfl hl.1 rfl (Nat.le_of_ble_eq_true rfl) dX0_addPointsOf_30 ⟨Nat.le_of_ble_eq_true rfl, Nat.le_of_ble_eq_true rfl⟩ rfl rfl (fun w_30 H locs hp_30 hW hz hS => ?_)
        subst w_30
        rw [rowSet_twice] at hW
        have hR_30 : rowAt (rowSet w r rI cI n (r_add n (j_pp g len (nI k)) (itN (r_pt1 n g len (nI mm)) k X))) r rI cI n (r_add n (j_pp g len (nI k)) (itN (r_pt1 n g len (nI mm)) k X)) := rowSet_at hRk.ne (r_add_le hRk.2.2.1) hRk.2.2.2
        have fo_a_30 : (rowSet w r rI cI n (r_add n (j_pp g len (nI k)) (itN (r_pt1 n g len (nI mm)) k X))) a = some (.inl (cI, len, .inl g)) := (rowSet_ne (wd_ne ha hR.1 (by intro h9; cases h9)) hne).trans ha
        refine lv_goto (tgt := 52) hx hb dX0_addPointsOf_33 (by decide) ?_
        refine lv_iinc (v := nI (k + 1)) (lv' := [(3, .int (nI (k + 1))), (0, .ref r), (1, .ref a), (2, .int (nI mm))]) hx hb dX0_addPointsOf_52 hl (k := 3) rfl (nI_add k 1) (by decide) rfl (fun ls hl => ?_)
        refine lv_goto (tgt := 2) hx hb dX0_addPointsOf_55 (by decide) ?_
        exact ih (k + 1) H locs ls ⟨(by omega), (by rw [show itN (r_pt1 n g len (nI mm)) (k + 1) X = r_add n (j_pp g len (nI k)) (itN (r_pt1 n g len (nI mm)) k X) from by (show r_pt1 n g len (nI mm) k _ = _; rw [r_pt1, if_pos c_21])]; exact hW), hS, (lv_sub hl [1, 2, 3, 0] rfl)⟩ (by omega)
set_option maxHeartbeats 4000000 in
set_option maxRecDepth 100000 in
theorem k_X2_partsPair (l : Launch) (D : va_G) (cI cT : ClassId) (w : Wd) (sz : Nat) (tx : Nat) (tI : Nat) (kd : Int32) (len : Nat) (g : Nat → Int32) (k : Int32) (hT : txtAt w tx tI cI kd len g) : wd_Mi l D vwCl (gK D cI cT) yX2_partsPair wsX2_partsPair (wd_rm 2 0 0) [.ref tx, .int k] w sz (fun r w' => r = j_b (j_parts kd g len k) ∧ w' = w) := by
  refine wd_met (cc := cX2_partsPair) (maxL := 2) (ret := (some .boolean)) (by decide) rfl (Nat.le_of_ble_eq_true rfl) ?_
  intro pg ev sg mi bl mt cde ls C0 hsz hK hW hl
  obtain ⟨hx, hb, hr, hml, hown, hts, hlocks, hnm⟩ := C0
  subst hsz
  have hown : sg.vm.findClass RX2 = some mi.cls := hown
  have hS : va_S (wd_A w sg.heap.size) sg.heap sg.heap [] := va_S.rf
  have hA : ∀ q, sg.heap.size ≤ q → wd_A w sg.heap.size q := fun q h => Or.inr h
  have hl : lv_has ls 2 [(0, .ref tx), (1, .int k)] := hl
  have hlen := hT.2.2
  refine lv_aload_n hx hb dX2_partsPair_0 rfl (lv_at hl 0 rfl) ?_
  refine wd_get (ci := 1) (v := .int kd) (C := RX1) (T := TX1) (N := 2) hx hb hts (by decide +kernel) hown hK.1 hW hT.1 rfl 0 (by decide) (hts (.fieldLink RX2 94 "CharRows$Text" "kindOfItems" "I") (by decide +kernel)) (fun _ h9 => h9) rfl dX2_partsPair_1 ?_
  refine lv_if_ne (tgt := 27) hx hb dX2_partsPair_4 (by decide) (fun c_4 => ?_) (fun c_4 => ?_)
  ·
    refine lv_iconst (v := 0) hx hb dX2_partsPair_27 (by decide) ?_
    refine wd_zret hx hb hr hlocks (Or.inl rfl) hW hS dX2_partsPair_28 ?_
    exact ⟨by first | (simp [j_b, j_parts, c_4]; done) | (simp only [j_b, j_parts, i_le]; simp [c_4]; done) | (exfalso; simp_all; done) | (simp only [j_parts, j_b]; simp_all), rfl⟩
  ·
    refine lv_aload_n hx hb dX2_partsPair_7 rfl (lv_at hl 0 rfl) ?_
    refine wd_get (ci := 1) (v := .ref tI) (C := RX1) (T := TX1) (N := 2) hx hb hts (by decide +kernel) hown hK.1 hW hT.1 rfl 1 (by decide) (hts (.fieldLink RX2 93 "CharRows$Text" "items" "[I") (by decide +kernel)) (fun _ h9 => h9) rfl dX2_partsPair_8 ?_
    refine lv_aload_n hx hb dX2_partsPair_11 rfl (lv_at hl 0 rfl) ?_
    refine wd_get (ci := 1) (v := .ref tI) (C := RX1) (T := TX1) (N := 2) hx hb hts (by decide +kernel) hown hK.1 hW hT.1 rfl 1 (by decide) (hts (.fieldLink RX2 93 "CharRows$Text" "items" "[I") (by decide +kernel)) (fun _ h9 => h9) rfl dX2_partsPair_12 ?_
    refine wd_alen hx hb hK.1 hW 0 hT.2.1 rfl dX2_partsPair_15 ?_
    refine lv_iload_n hx hb dX2_partsPair_16 rfl (lv_at hl 1 rfl) ?_
    refine wd_callSi (As := [.ref tI, .int (nI len), .int k]) (rest := []) (c2 := 0) (s2 := 0) ⟨hx, hb, hml, hown, hts⟩ (k_X2_isInsidePair l D cI cT w sg.heap.size tI len g (nI len) k hT.2.1 (by omega)) (va_cwS 3 hts gX2_partsPair_X2_isInsidePair rfl rfl rfl (by decide +kernel) ⟨Nat.le_of_ble_eq_true rfl, Nat.le_of_ble_eq_true rfl⟩) gK_ok hK hW hS hA rfl hl.1 rfl (Nat.le_of_ble_eq_true rfl) dX2_partsPair_17 ⟨Nat.le_of_ble_eq_true rfl, Nat.le_of_ble_eq_true rfl⟩ rfl rfl (fun r_17 w_17 H locs hp_17 hW hz hS => ?_)
    obtain ⟨q_r, q_w⟩ := hp_17
    subst r_17
    subst w_17
    refine lv_if_eq (tgt := 27) hx hb dX2_partsPair_20 (by decide) (fun c_20 => ?_) (fun c_20 => ?_)
    ·
      have c_20 := j_b0 c_20
      refine lv_iconst (v := 0) hx hb dX2_partsPair_27 (by decide) ?_
      refine wd_zret hx hb hr hlocks (Or.inl rfl) hW hS dX2_partsPair_28 ?_
      exact ⟨by first | (simp [j_b, j_parts, c_4, c_20]; done) | (simp only [j_b, j_parts, i_le]; simp [c_4, c_20]; done) | (exfalso; simp_all; done) | (simp only [j_parts, j_b]; simp_all), rfl⟩
    ·
      have c_20 := j_bn c_20
      refine lv_iconst (v := 1) hx hb dX2_partsPair_23 (by decide) ?_
      refine lv_goto (tgt := 28) hx hb dX2_partsPair_24 (by decide) ?_
      refine wd_zret hx hb hr hlocks (Or.inr rfl) hW hS dX2_partsPair_28 ?_
      exact ⟨by first | (simp [j_b, j_parts, c_4, c_20]; done) | (simp only [j_b, j_parts, i_le]; simp [c_4, c_20]; done) | (exfalso; simp_all; done) | (simp only [j_parts, j_b]; simp_all), rfl⟩
set_option maxHeartbeats 4000000 in
set_option maxRecDepth 100000 in
theorem k_X2_isBeyond (l : Launch) (D : va_G) (cI cT : ClassId) (w : Wd) (sz : Nat) (tx : Nat) (tI : Nat) (kd : Int32) (len : Nat) (g : Nat → Int32) (i : Int32) (n : Int32) (hT : txtAt w tx tI cI kd len g) : wd_Mi l D vwCl (gK D cI cT) yX2_isBeyond wsX2_isBeyond (wd_rm 0 0 0) [.ref tx, .int i, .int n] w sz (fun r w' => r = j_b (j_beyond len i n) ∧ w' = w) := by
  refine wd_met (cc := cX2_isBeyond) (maxL := 4) (ret := (some .boolean)) (by decide) rfl (Nat.le_of_ble_eq_true rfl) ?_
  intro pg ev sg mi bl mt cde ls C0 hsz hK hW hl
  obtain ⟨hx, hb, hr, hml, hown, hts, hlocks, hnm⟩ := C0
  subst hsz
  have hown : sg.vm.findClass RX2 = some mi.cls := hown
  have hS : va_S (wd_A w sg.heap.size) sg.heap sg.heap [] := va_S.rf
  have hA : ∀ q, sg.heap.size ≤ q → wd_A w sg.heap.size q := fun q h => Or.inr h
  have hl : lv_has ls 4 [(0, .ref tx), (1, .int i), (2, .int n)] := hl
  have hlen := hT.2.2
  refine lv_aload_n hx hb dX2_isBeyond_0 rfl (lv_at hl 0 rfl) ?_
  refine wd_get (ci := 1) (v := .ref tI) (C := RX1) (T := TX1) (N := 2) hx hb hts (by decide +kernel) hown hK.1 hW hT.1 rfl 1 (by decide) (hts (.fieldLink RX2 93 "CharRows$Text" "items" "[I") (by decide +kernel)) (fun _ h9 => h9) rfl dX2_isBeyond_1 ?_
  refine wd_alen hx hb hK.1 hW 0 hT.2.1 rfl dX2_isBeyond_4 ?_
  refine lv_istore_n (lv' := [(3, .int (nI len)), (0, .ref tx), (1, .int i), (2, .int n)]) hx hb dX2_isBeyond_5 rfl hl (by decide) rfl (fun ls hl => ?_)
  refine lv_iload_n hx hb dX2_isBeyond_6 rfl (lv_at hl 2 rfl) ?_
  refine lv_if_lt (tgt := 26) hx hb dX2_isBeyond_7 (by decide) (fun c_7 => ?_) (fun c_7 => ?_)
  ·
    refine lv_iconst (v := 1) hx hb dX2_isBeyond_26 (by decide) ?_
    refine lv_goto (tgt := 31) hx hb dX2_isBeyond_27 (by decide) ?_
    refine wd_zret hx hb hr hlocks (Or.inr rfl) hW hS dX2_isBeyond_31 ?_
    exact ⟨by first | (simp [j_b, j_beyond, c_7]; done) | (simp only [j_b, j_beyond, i_le]; simp [c_7]; done) | (exfalso; simp_all; done) | rfl, rfl⟩
  ·
    refine lv_iload_n hx hb dX2_isBeyond_10 rfl (lv_at hl 3 rfl) ?_
    refine lv_if_lt (tgt := 26) hx hb dX2_isBeyond_11 (by decide) (fun c_11 => ?_) (fun c_11 => ?_)
    ·
      refine lv_iconst (v := 1) hx hb dX2_isBeyond_26 (by decide) ?_
      refine lv_goto (tgt := 31) hx hb dX2_isBeyond_27 (by decide) ?_
      refine wd_zret hx hb hr hlocks (Or.inr rfl) hW hS dX2_isBeyond_31 ?_
      exact ⟨by first | (simp [j_b, j_beyond, c_7, c_11]; done) | (simp only [j_b, j_beyond, i_le]; simp [c_7, c_11]; done) | (exfalso; simp_all; done) | rfl, rfl⟩
    ·
      refine lv_iload_n hx hb dX2_isBeyond_14 rfl (lv_at hl 2 rfl) ?_
      refine lv_iload_n hx hb dX2_isBeyond_15 rfl (lv_at hl 0 rfl) ?_
      refine lv_icmp_gt (tgt := 26) hx hb dX2_isBeyond_16 (by decide) (fun c_16 => ?_) (fun c_16 => ?_)
      ·
        refine lv_iconst (v := 1) hx hb dX2_isBeyond_26 (by decide) ?_
        refine lv_goto (tgt := 31) hx hb dX2_isBeyond_27 (by decide) ?_
        refine wd_zret hx hb hr hlocks (Or.inr rfl) hW hS dX2_isBeyond_31 ?_
        exact ⟨by first | (simp [j_b, j_beyond, c_7, c_11, c_16]; done) | (simp only [j_b, j_beyond, i_le]; simp [c_7, c_11, c_16]; done) | (exfalso; simp_all; done) | rfl, rfl⟩
      ·
        refine lv_iload_n hx hb dX2_isBeyond_19 rfl (lv_at hl 3 rfl) ?_
        refine lv_iload_n hx hb dX2_isBeyond_20 rfl (lv_at hl 0 rfl) ?_
        refine lv_iload_n hx hb dX2_isBeyond_21 rfl (lv_at hl 2 rfl) ?_
        refine lv_isub hx hb dX2_isBeyond_22 ?_
        refine lv_icmp_le (tgt := 30) hx hb dX2_isBeyond_23 (by decide) (fun c_23 => ?_) (fun c_23 => ?_)
        ·
          simp only [i_le, Decidable.not_not] at c_23
          refine lv_iconst (v := 0) hx hb dX2_isBeyond_30 (by decide) ?_
          refine wd_zret hx hb hr hlocks (Or.inl rfl) hW hS dX2_isBeyond_31 ?_
          exact ⟨by first | (simp [j_b, j_beyond, c_7, c_11, c_16, c_23]; done) | (simp only [j_b, j_beyond, i_le]; simp [c_7, c_11, c_16, c_23]; done) | (exfalso; simp_all; done) | rfl, rfl⟩
        ·
          simp only [i_le, Decidable.not_not] at c_23
          refine lv_iconst (v := 1) hx hb dX2_isBeyond_26 (by decide) ?_
          refine lv_goto (tgt := 31) hx hb dX2_isBeyond_27 (by decide) ?_
          refine wd_zret hx hb hr hlocks (Or.inr rfl) hW hS dX2_isBeyond_31 ?_
          exact ⟨by first | (simp [j_b, j_beyond, c_7, c_11, c_16, c_23]; done) | (simp only [j_b, j_beyond, i_le]; simp [c_7, c_11, c_16, c_23]; done) | (exfalso; simp_all; done) | rfl, rfl⟩
set_option maxHeartbeats 4000000 in
set_option maxRecDepth 100000 in
theorem k_X2_listPoints (l : Launch) (D : va_G) (cI cT : ClassId) (w : Wd) (sz : Nat) (tx : Nat) (tI : Nat) (kd : Int32) (len : Nat) (g : Nat → Int32) (r : Nat) (rI : Nat) (n : Nat) (X : Rw) (hT : txtAt w tx tI cI kd len g) (hR : rowAt w r rI cI n X) (hne : tI ≠ rI) : wd_Mv l D vwCl (gK D cI cT) yX2_listPoints wsX2_listPoints (wd_rm 3 0 0) [.ref tx, .ref r] w sz (fun w' => w' = rowSet w r rI cI n (r_lp n kd g len X)) := by
  refine wd_met (cc := cX2_listPoints) (maxL := 2) (ret := none) (by decide) rfl (Nat.le_of_ble_eq_true rfl) ?_
  intro pg ev sg mi bl mt cde ls C0 hsz hK hW hl
  obtain ⟨hx, hb, hr, hml, hown, hts, hlocks, hnm⟩ := C0
  subst hsz
  have hown : sg.vm.findClass RX2 = some mi.cls := hown
  have hS : va_S (wd_A w sg.heap.size) sg.heap sg.heap [] := va_S.rf
  have hA : ∀ q, sg.heap.size ≤ q → wd_A w sg.heap.size q := fun q h => Or.inr h
  have hl : lv_has ls 2 [(0, .ref tx), (1, .ref r)] := hl
  have hlen := hT.2.2
  refine lv_aload_n hx hb dX2_listPoints_0 rfl (lv_at hl 1 rfl) ?_
  refine wd_callVv (As := []) (rest := []) (c2 := 0) (s2 := 0) ⟨hx, hb, hml, hown, hts⟩ (k_X0_empty l D cI cT w sg.heap.size r rI n X hR) (cwV 0 hts gX2_listPoints_X0_empty rfl rfl rfl (by decide +kernel) ⟨Nat.le_of_ble_eq_true rfl, Nat.le_of_ble_eq_true rfl⟩) gK_ok hK hW (wd_recv (ci := 0) hK.1 hW rfl hR.1) hS hA rfl hl.1 rfl (Nat.le_of_ble_eq_true rfl) dX2_listPoints_1 ⟨Nat.le_of_ble_eq_true rfl, Nat.le_of_ble_eq_true rfl⟩ rfl rfl (fun w_1 H locs hp_1 hW hz hS => ?_)
  subst w_1
  have hR_1 : rowAt (rowSet w r rI cI n (r_nil X)) r rI cI n (r_nil X) := rowSet_at hR.ne (Nat.zero_le _) hR.2.2.2
  have fo_tx_1 : (rowSet w r rI cI n (r_nil X)) tx = some (.inr (1, [.int kd, .ref tI])) := (rowSet_ne (wd_ne hT.1 hR.1 (by simp)) (wd_ne hT.1 hR.2.1 (by simp))).trans hT.1
  have fo_tI_1 : (rowSet w r rI cI n (r_nil X)) tI = some (.inl (cI, len, .inl g)) := (rowSet_ne (wd_ne hT.2.1 hR.1 (by simp)) hne).trans hT.2.1
  refine lv_aload_n hx hb dX2_listPoints_4 rfl (lv_at hl 0 rfl) ?_
  refine wd_get (ci := 1) (v := .int kd) (C := RX1) (T := TX1) (N := 2) hx hb hts (by decide +kernel) hown hK.1 hW fo_tx_1 rfl 0 (by decide) (hts (.fieldLink RX2 94 "CharRows$Text" "kindOfItems" "I") (by decide +kernel)) (fun _ h9 => h9) rfl dX2_listPoints_5 ?_
  refine lv_if_ne (tgt := 27) hx hb dX2_listPoints_8 (by decide) (fun c_8 => ?_) (fun c_8 => ?_)
  ·
    refine lv_aload_n hx hb dX2_listPoints_27 rfl (lv_at hl 1 rfl) ?_
    refine lv_aload_n hx hb dX2_listPoints_28 rfl (lv_at hl 0 rfl) ?_
    refine wd_get (ci := 1) (v := .ref tI) (C := RX1) (T := TX1) (N := 2) hx hb hts (by decide +kernel) hown hK.1 hW fo_tx_1 rfl 1 (by decide) (hts (.fieldLink RX2 93 "CharRows$Text" "items" "[I") (by decide +kernel)) (fun _ h9 => h9) rfl dX2_listPoints_29 ?_
    refine wd_callVv (As := [.ref tI]) (rest := []) (c2 := 0) (s2 := 0) ⟨hx, hb, hml, hown, hts⟩ (k_X0_addAll l D cI cT (rowSet w r rI cI n (r_nil X)) H.size r rI n (r_nil X) tI len g hR_1 fo_tI_1 (by omega) hne) (cwV 1 hts gX2_listPoints_X0_addAll rfl rfl rfl (by decide +kernel) ⟨Nat.le_of_ble_eq_true rfl, Nat.le_of_ble_eq_true rfl⟩) gK_ok hK hW (wd_recv (ci := 0) hK.1 hW rfl hR_1.1) hS hA rfl hl.1 rfl (Nat.le_of_ble_eq_true rfl) dX2_listPoints_32 ⟨Nat.le_of_ble_eq_true rfl, Nat.le_of_ble_eq_true rfl⟩ rfl rfl (fun w_32 H locs hp_32 hW hz hS => ?_)
    subst w_32
    rw [rowSet_twice] at hW
    have hR_32 : rowAt (rowSet w r rI cI n (r_all n g len (r_nil X))) r rI cI n (r_all n g len (r_nil X)) := rowSet_at hR_1.ne (r_all_le hR_1.2.2.1) hR_1.2.2.2
    have fo_tx_32 : (rowSet w r rI cI n (r_all n g len (r_nil X))) tx = some (.inr (1, [.int kd, .ref tI])) := (rowSet_ne (wd_ne hT.1 hR.1 (by simp)) (wd_ne hT.1 hR.2.1 (by simp))).trans hT.1
    have fo_tI_32 : (rowSet w r rI cI n (r_all n g len (r_nil X))) tI = some (.inl (cI, len, .inl g)) := (rowSet_ne (wd_ne hT.2.1 hR.1 (by simp)) hne).trans hT.2.1
    refine wd_vret hx hb hr hlocks hW hS dX2_listPoints_35 ?_
    show _ = _
    rw [r_lp]
    simp [c_8]
  ·
    refine lv_aload_n hx hb dX2_listPoints_11 rfl (lv_at hl 1 rfl) ?_
    refine lv_aload_n hx hb dX2_listPoints_12 rfl (lv_at hl 0 rfl) ?_
    refine wd_get (ci := 1) (v := .ref tI) (C := RX1) (T := TX1) (N := 2) hx hb hts (by decide +kernel) hown hK.1 hW fo_tx_1 rfl 1 (by decide) (hts (.fieldLink RX2 93 "CharRows$Text" "items" "[I") (by decide +kernel)) (fun _ h9 => h9) rfl dX2_listPoints_13 ?_
    refine lv_aload_n hx hb dX2_listPoints_16 rfl (lv_at hl 0 rfl) ?_
    refine wd_get (ci := 1) (v := .ref tI) (C := RX1) (T := TX1) (N := 2) hx hb hts (by decide +kernel) hown hK.1 hW fo_tx_1 rfl 1 (by decide) (hts (.fieldLink RX2 93 "CharRows$Text" "items" "[I") (by decide +kernel)) (fun _ h9 => h9) rfl dX2_listPoints_17 ?_
    refine wd_alen hx hb hK.1 hW 0 fo_tI_1 rfl dX2_listPoints_20 ?_
    refine wd_callVv (As := [.ref tI, .int (nI len)]) (rest := []) (c2 := 0) (s2 := 0) ⟨hx, hb, hml, hown, hts⟩ (k_X0_addPointsOf l D cI cT (rowSet w r rI cI n (r_nil X)) H.size r rI n (r_nil X) tI len g len hR_1 fo_tI_1 (by omega) hne (by omega)) (cwV 2 hts gX2_listPoints_X0_addPointsOf rfl rfl rfl (by decide +kernel) ⟨Nat.le_of_ble_eq_true rfl, Nat.le_of_ble_eq_true rfl⟩) gK_ok hK hW (wd_recv (ci := 0) hK.1 hW rfl hR_1.1) hS hA rfl hl.1 rfl (Nat.le_of_ble_eq_true rfl) dX2_listPoints_21 ⟨Nat.le_of_ble_eq_true rfl, Nat.le_of_ble_eq_true rfl⟩ rfl rfl (fun w_21 H locs hp_21 hW hz hS => ?_)
    subst w_21
    rw [rowSet_twice] at hW
    have hR_21 : rowAt (rowSet w r rI cI n (r_pts n g len len (r_nil X))) r rI cI n (r_pts n g len len (r_nil X)) := rowSet_at hR_1.ne (r_pts_le hR_1.2.2.1) hR_1.2.2.2
    have fo_tx_21 : (rowSet w r rI cI n (r_pts n g len len (r_nil X))) tx = some (.inr (1, [.int kd, .ref tI])) := (rowSet_ne (wd_ne hT.1 hR.1 (by simp)) (wd_ne hT.1 hR.2.1 (by simp))).trans hT.1
    have fo_tI_21 : (rowSet w r rI cI n (r_pts n g len len (r_nil X))) tI = some (.inl (cI, len, .inl g)) := (rowSet_ne (wd_ne hT.2.1 hR.1 (by simp)) hne).trans hT.2.1
    refine lv_goto (tgt := 35) hx hb dX2_listPoints_24 (by decide) ?_
    refine wd_vret hx hb hr hlocks hW hS dX2_listPoints_35 ?_
    show _ = _
    rw [r_lp]
    simp [c_8]
set_option maxHeartbeats 4000000 in
set_option maxRecDepth 100000 in
theorem k_X2_listUnits (l : Launch) (D : va_G) (cI cT : ClassId) (w : Wd) (sz : Nat) (tx : Nat) (tI : Nat) (kd : Int32) (len : Nat) (g : Nat → Int32) (r : Nat) (rI : Nat) (n : Nat) (X : Rw) (hT : txtAt w tx tI cI kd len g) (hR : rowAt w r rI cI n X) (hne : tI ≠ rI) : wd_Mv l D vwCl (gK D cI cT) yX2_listUnits wsX2_listUnits (wd_rm 3 0 0) [.ref tx, .ref r] w sz (fun w' => w' = rowSet w r rI cI n (r_lu n kd g len X)) := by
  refine wd_met (cc := cX2_listUnits) (maxL := 3) (ret := none) (by decide) rfl (Nat.le_of_ble_eq_true rfl) ?_
  intro pg ev sg mi bl mt cde ls C0 hsz hK hW hl
  obtain ⟨hx, hb, hr, hml, hown, hts, hlocks, hnm⟩ := C0
  subst hsz
  have hown : sg.vm.findClass RX2 = some mi.cls := hown
  have hS : va_S (wd_A w sg.heap.size) sg.heap sg.heap [] := va_S.rf
  have hA : ∀ q, sg.heap.size ≤ q → wd_A w sg.heap.size q := fun q h => Or.inr h
  have hl : lv_has ls 3 [(0, .ref tx), (1, .ref r)] := hl
  have hlen := hT.2.2
  refine lv_aload_n hx hb dX2_listUnits_0 rfl (lv_at hl 1 rfl) ?_
  refine wd_callVv (As := []) (rest := []) (c2 := 0) (s2 := 0) ⟨hx, hb, hml, hown, hts⟩ (k_X0_empty l D cI cT w sg.heap.size r rI n X hR) (cwV 0 hts gX2_listUnits_X0_empty rfl rfl rfl (by decide +kernel) ⟨Nat.le_of_ble_eq_true rfl, Nat.le_of_ble_eq_true rfl⟩) gK_ok hK hW (wd_recv (ci := 0) hK.1 hW rfl hR.1) hS hA rfl hl.1 rfl (Nat.le_of_ble_eq_true rfl) dX2_listUnits_1 ⟨Nat.le_of_ble_eq_true rfl, Nat.le_of_ble_eq_true rfl⟩ rfl rfl (fun w_1 H locs hp_1 hW hz hS => ?_)
  subst w_1
  have hR_1 : rowAt (rowSet w r rI cI n (r_nil X)) r rI cI n (r_nil X) := rowSet_at hR.ne (Nat.zero_le _) hR.2.2.2
  have fo_tx_1 : (rowSet w r rI cI n (r_nil X)) tx = some (.inr (1, [.int kd, .ref tI])) := (rowSet_ne (wd_ne hT.1 hR.1 (by simp)) (wd_ne hT.1 hR.2.1 (by simp))).trans hT.1
  have fo_tI_1 : (rowSet w r rI cI n (r_nil X)) tI = some (.inl (cI, len, .inl g)) := (rowSet_ne (wd_ne hT.2.1 hR.1 (by simp)) hne).trans hT.2.1
  refine lv_aload_n hx hb dX2_listUnits_4 rfl (lv_at hl 0 rfl) ?_
  refine wd_get (ci := 1) (v := .int kd) (C := RX1) (T := TX1) (N := 2) hx hb hts (by decide +kernel) hown hK.1 hW fo_tx_1 rfl 0 (by decide) (hts (.fieldLink RX2 94 "CharRows$Text" "kindOfItems" "I") (by decide +kernel)) (fun _ h9 => h9) rfl dX2_listUnits_5 ?_
  refine lv_iconst (v := 1) hx hb dX2_listUnits_8 (by decide) ?_
  refine lv_icmp_eq (tgt := 21) hx hb dX2_listUnits_9 (by decide) (fun c_9 => ?_) (fun c_9 => ?_)
  ·
    refine lv_iconst (v := 0) hx hb dX2_listUnits_21 (by decide) ?_
    refine lv_istore_n (lv' := [(2, .int 0), (0, .ref tx), (1, .ref r)]) hx hb dX2_listUnits_22 rfl hl (by decide) rfl (fun ls hl => ?_)
    refine wd_loop1 (fun (k : Nat) (H : Heap) (locs : List Loc) (ls : Array Slot) => (k ≤ len) ∧ wd_P D vwCl (wd_A w sg.heap.size) (rowSet w r rI cI n (itN (fun k X => r_uni n (g k) X) k (r_nil X))) H ∧ va_S (wd_A w sg.heap.size) sg.heap H locs ∧ lv_has ls 3 [(0, .ref tx), (1, .ref r), (2, .int (nI k))]) (fun (k : Nat) => len - k) 0 ⟨Nat.zero_le _, hW, hS, (lv_sub hl [1, 2, 0] rfl)⟩ (fun k H locs ls hI ih => ?_)
    obtain ⟨hk, hW, hS, hl⟩ := hI
    have hRk : rowAt (rowSet w r rI cI n (itN (fun k X => r_uni n (g k) X) k (r_nil X))) r rI cI n (itN (fun k X => r_uni n (g k) X) k (r_nil X)) := rowSet_at hR.ne (itN_le (fun _ _ h => r_uni_le h) _ _ r_nil_le) hR.2.2.2
    have fo_tx_k : (rowSet w r rI cI n (itN (fun k X => r_uni n (g k) X) k (r_nil X))) tx = some (.inr (1, [.int kd, .ref tI])) := (rowSet_ne (wd_ne hT.1 hR.1 (by simp)) (wd_ne hT.1 hR.2.1 (by simp))).trans hT.1
    have fo_tI_k : (rowSet w r rI cI n (itN (fun k X => r_uni n (g k) X) k (r_nil X))) tI = some (.inl (cI, len, .inl g)) := (rowSet_ne (wd_ne hT.2.1 hR.1 (by simp)) hne).trans hT.2.1
    refine lv_iload_n hx hb dX2_listUnits_23 rfl (lv_at hl 2 rfl) ?_
    refine lv_aload_n hx hb dX2_listUnits_24 rfl (lv_at hl 0 rfl) ?_
    refine wd_get (ci := 1) (v := .ref tI) (C := RX1) (T := TX1) (N := 2) hx hb hts (by decide +kernel) hown hK.1 hW fo_tx_k rfl 1 (by decide) (hts (.fieldLink RX2 93 "CharRows$Text" "items" "[I") (by decide +kernel)) (fun _ h9 => h9) rfl dX2_listUnits_25 ?_
    refine wd_alen hx hb hK.1 hW 0 fo_tI_k rfl dX2_listUnits_28 ?_
    refine lv_icmp_ge (tgt := 48) hx hb dX2_listUnits_29 (by decide) (fun c_29 => ?_) (fun c_29 => ?_)
    ·
      have c_29 : len ≤ k := (nI_leI (by omega) (by omega)).mp (show (nI len ≤ nI k) from c_29)
      refine wd_vret hx hb hr hlocks hW hS dX2_listUnits_48 ?_
      show _ = _
      rw [r_lu, if_neg (by simpa using c_9), show len = k by omega]
    ·
      have c_29 : ¬ (len ≤ k) := fun q9 => absurd ((nI_leI (by omega) (by omega)).mpr q9) (show ¬ (nI len ≤ nI k) from c_29)
      refine lv_aload_n hx hb dX2_listUnits_32 rfl (lv_at hl 1 rfl) ?_
      refine lv_aload_n hx hb dX2_listUnits_33 rfl (lv_at hl 0 rfl) ?_
      refine wd_get (ci := 1) (v := .ref tI) (C := RX1) (T := TX1) (N := 2) hx hb hts (by decide +kernel) hown hK.1 hW fo_tx_k rfl 1 (by decide) (hts (.fieldLink RX2 93 "CharRows$Text" "items" "[I") (by decide +kernel)) (fun _ h9 => h9) rfl dX2_listUnits_34 ?_
      refine lv_iload_n hx hb dX2_listUnits_37 rfl (lv_at hl 2 rfl) ?_
      refine wd_iald hx hb hK.1 hW 0 fo_tI_k rfl (vp_in_nI (by omega) (by omega)) dX2_listUnits_38 ?_
      refine wd_topE (y := g k) (by rw [nI_clamp (by omega)]) ?_
      refine wd_callVv (As := [.int (g k)]) (rest := []) (c2 := 0) (s2 := 0) ⟨hx, hb, hml, hown, hts⟩ (k_X0_addUnitsOf l D cI cT (rowSet w r rI cI n (itN (fun k X => r_uni n (g k) X) k (r_nil X))) H.size r rI n (itN (fun k X => r_uni n (g k) X) k (r_nil X)) (g k) hRk) (cwV 1 hts gX2_listUnits_X0_addUnitsOf rfl rfl rfl (by decide +kernel) ⟨Nat.le_of_ble_eq_true rfl, Nat.le_of_ble_eq_true rfl⟩) gK_ok hK hW (wd_recv (ci := 0) hK.1 hW rfl hRk.1) hS hA rfl hl.1 rfl (Nat.le_of_ble_eq_true rfl) dX2_listUnits_39 ⟨Nat.le_of_ble_eq_true rfl, Nat.le_of_ble_eq_true rfl⟩ rfl rfl (fun w_39 H locs hp_39 hW hz hS => ?_)
      subst w_39
      rw [rowSet_twice] at hW
      have hR_39 : rowAt (rowSet w r rI cI n (r_uni n (g k) (itN (fun k X => r_uni n (g k) X) k (r_nil X)))) r rI cI n (r_uni n (g k) (itN (fun k X => r_uni n (g k) X) k (r_nil X))) := rowSet_at hRk.ne (r_uni_le hRk.2.2.1) hRk.2.2.2
      have fo_tx_39 : (rowSet w r rI cI n (r_uni n (g k) (itN (fun k X => r_uni n (g k) X) k (r_nil X)))) tx = some (.inr (1, [.int kd, .ref tI])) := (rowSet_ne (wd_ne hT.1 hR.1 (by simp)) (wd_ne hT.1 hR.2.1 (by simp))).trans hT.1
      have fo_tI_39 : (rowSet w r rI cI n (r_uni n (g k) (itN (fun k X => r_uni n (g k) X) k (r_nil X)))) tI = some (.inl (cI, len, .inl g)) := (rowSet_ne (wd_ne hT.2.1 hR.1 (by simp)) hne).trans hT.2.1
      refine lv_iinc (v := nI (k + 1)) (lv' := [(2, .int (nI (k + 1))), (0, .ref tx), (1, .ref r)]) hx hb dX2_listUnits_42 hl (k := 2) rfl (nI_add k 1) (by decide) rfl (fun ls hl => ?_)
      refine lv_goto (tgt := 23) hx hb dX2_listUnits_45 (by decide) ?_
      exact ih (k + 1) H locs ls ⟨(by omega), hW, hS, (lv_sub hl [1, 2, 0] rfl)⟩ (by omega)
  ·
    refine lv_aload_n hx hb dX2_listUnits_12 rfl (lv_at hl 1 rfl) ?_
    refine lv_aload_n hx hb dX2_listUnits_13 rfl (lv_at hl 0 rfl) ?_
    refine wd_get (ci := 1) (v := .ref tI) (C := RX1) (T := TX1) (N := 2) hx hb hts (by decide +kernel) hown hK.1 hW fo_tx_1 rfl 1 (by decide) (hts (.fieldLink RX2 93 "CharRows$Text" "items" "[I") (by decide +kernel)) (fun _ h9 => h9) rfl dX2_listUnits_14 ?_
    refine wd_callVv (As := [.ref tI]) (rest := []) (c2 := 0) (s2 := 0) ⟨hx, hb, hml, hown, hts⟩ (k_X0_addAll l D cI cT (rowSet w r rI cI n (r_nil X)) H.size r rI n (r_nil X) tI len g hR_1 fo_tI_1 (by omega) hne) (cwV 1 hts gX2_listUnits_X0_addAll rfl rfl rfl (by decide +kernel) ⟨Nat.le_of_ble_eq_true rfl, Nat.le_of_ble_eq_true rfl⟩) gK_ok hK hW (wd_recv (ci := 0) hK.1 hW rfl hR_1.1) hS hA rfl hl.1 rfl (Nat.le_of_ble_eq_true rfl) dX2_listUnits_17 ⟨Nat.le_of_ble_eq_true rfl, Nat.le_of_ble_eq_true rfl⟩ rfl rfl (fun w_17 H locs hp_17 hW hz hS => ?_)
    subst w_17
    rw [rowSet_twice] at hW
    have hR_17 : rowAt (rowSet w r rI cI n (r_all n g len (r_nil X))) r rI cI n (r_all n g len (r_nil X)) := rowSet_at hR_1.ne (r_all_le hR_1.2.2.1) hR_1.2.2.2
    have fo_tx_17 : (rowSet w r rI cI n (r_all n g len (r_nil X))) tx = some (.inr (1, [.int kd, .ref tI])) := (rowSet_ne (wd_ne hT.1 hR.1 (by simp)) (wd_ne hT.1 hR.2.1 (by simp))).trans hT.1
    have fo_tI_17 : (rowSet w r rI cI n (r_all n g len (r_nil X))) tI = some (.inl (cI, len, .inl g)) := (rowSet_ne (wd_ne hT.2.1 hR.1 (by simp)) hne).trans hT.2.1
    refine wd_vret hx hb hr hlocks hW hS dX2_listUnits_20 ?_
    show _ = _
    rw [r_lu, if_pos c_9]
set_option maxHeartbeats 4000000 in
set_option maxRecDepth 100000 in
theorem k_X2_isToldIn (l : Launch) (D : va_G) (cI cT : ClassId) (w : Wd) (sz : Nat) (p : Int32) (q : Int32) : wd_Mi l D vwCl (gK D cI cT) yX2_isToldIn wsX2_isToldIn (wd_rm 1 0 0) [.int p, .int q] w sz (fun r w' => r = j_b (j_told p q) ∧ w' = w) := by
  refine wd_met (cc := cX2_isToldIn) (maxL := 2) (ret := (some .boolean)) (by decide) rfl (Nat.le_of_ble_eq_true rfl) ?_
  intro pg ev sg mi bl mt cde ls C0 hsz hK hW hl
  obtain ⟨hx, hb, hr, hml, hown, hts, hlocks, hnm⟩ := C0
  subst hsz
  have hown : sg.vm.findClass RX2 = some mi.cls := hown
  have hS : va_S (wd_A w sg.heap.size) sg.heap sg.heap [] := va_S.rf
  have hA : ∀ q, sg.heap.size ≤ q → wd_A w sg.heap.size q := fun q h => Or.inr h
  have hl : lv_has ls 2 [(0, .int p), (1, .int q)] := hl
  refine lv_iload_n hx hb dX2_isToldIn_0 rfl (lv_at hl 1 rfl) ?_
  refine lv_iconst (v := 3) hx hb dX2_isToldIn_1 (by decide) ?_
  refine lv_icmp_ne (tgt := 32) hx hb dX2_isToldIn_2 (by decide) (fun c_2 => ?_) (fun c_2 => ?_)
  ·
    refine lv_iload_n hx hb dX2_isToldIn_32 rfl (lv_at hl 1 rfl) ?_
    refine lv_iconst (v := 4) hx hb dX2_isToldIn_33 (by decide) ?_
    refine lv_icmp_ne (tgt := 55) hx hb dX2_isToldIn_34 (by decide) (fun c_34 => ?_) (fun c_34 => ?_)
    ·
      refine lv_iconst (v := 1) hx hb dX2_isToldIn_55 (by decide) ?_
      refine wd_zret hx hb hr hlocks (Or.inr rfl) hW hS dX2_isToldIn_56 ?_
      exact ⟨by first | (simp [j_b, j_told, c_2, c_34]; done) | (simp only [j_b, j_told, i_le]; simp [c_2, c_34]; done) | (exfalso; simp_all; done) | (simp only [j_told, j_b]; simp_all), rfl⟩
    ·
      refine lv_iload_n hx hb dX2_isToldIn_37 rfl (lv_at hl 0 rfl) ?_
      refine lv_ldc (v := 65536) hx hb hown (hts (.constant RX2 173 65536) (by decide +kernel)) dX2_isToldIn_38 ?_
      refine lv_icmp_lt (tgt := 53) hx hb dX2_isToldIn_40 (by decide) (fun c_40 => ?_) (fun c_40 => ?_)
      ·
        refine lv_iconst (v := 0) hx hb dX2_isToldIn_53 (by decide) ?_
        refine wd_zret hx hb hr hlocks (Or.inl rfl) hW hS dX2_isToldIn_54 ?_
        exact ⟨by first | (simp [j_b, j_told, c_2, c_34, c_40]; done) | (simp only [j_b, j_told, i_le]; simp [c_2, c_34, c_40]; done) | (exfalso; simp_all; done) | (simp only [j_told, j_b]; simp_all), rfl⟩
      ·
        refine lv_iload_n hx hb dX2_isToldIn_43 rfl (lv_at hl 0 rfl) ?_
        refine lv_ldc (v := 1114111) hx hb hown (hts (.constant RX2 181 1114111) (by decide +kernel)) dX2_isToldIn_44 ?_
        refine lv_icmp_gt (tgt := 53) hx hb dX2_isToldIn_46 (by decide) (fun c_46 => ?_) (fun c_46 => ?_)
        ·
          refine lv_iconst (v := 0) hx hb dX2_isToldIn_53 (by decide) ?_
          refine wd_zret hx hb hr hlocks (Or.inl rfl) hW hS dX2_isToldIn_54 ?_
          exact ⟨by first | (simp [j_b, j_told, c_2, c_34, c_40, c_46]; done) | (simp only [j_b, j_told, i_le]; simp [c_2, c_34, c_40, c_46]; done) | (exfalso; simp_all; done) | (simp only [j_told, j_b]; simp_all), rfl⟩
        ·
          refine lv_iconst (v := 1) hx hb dX2_isToldIn_49 (by decide) ?_
          refine lv_goto (tgt := 54) hx hb dX2_isToldIn_50 (by decide) ?_
          refine wd_zret hx hb hr hlocks (Or.inr rfl) hW hS dX2_isToldIn_54 ?_
          exact ⟨by first | (simp [j_b, j_told, c_2, c_34, c_40, c_46]; done) | (simp only [j_b, j_told, i_le]; simp [c_2, c_34, c_40, c_46]; done) | (exfalso; simp_all; done) | (simp only [j_told, j_b]; simp_all), rfl⟩
  ·
    refine lv_iload_n hx hb dX2_isToldIn_5 rfl (lv_at hl 0 rfl) ?_
    refine lv_sipush (v := 2048) hx hb dX2_isToldIn_6 (by decide) ?_
    refine lv_icmp_lt (tgt := 30) hx hb dX2_isToldIn_9 (by decide) (fun c_9 => ?_) (fun c_9 => ?_)
    ·
      refine lv_iconst (v := 0) hx hb dX2_isToldIn_30 (by decide) ?_
      refine wd_zret hx hb hr hlocks (Or.inl rfl) hW hS dX2_isToldIn_31 ?_
      exact ⟨by first | (simp [j_b, j_told, c_2, c_9]; done) | (simp only [j_b, j_told, i_le]; simp [c_2, c_9]; done) | (exfalso; simp_all; done) | (simp only [j_told, j_b]; simp_all), rfl⟩
    ·
      refine lv_iload_n hx hb dX2_isToldIn_12 rfl (lv_at hl 0 rfl) ?_
      refine wd_callSi (As := [.int p]) (rest := []) (c2 := 0) (s2 := 0) ⟨hx, hb, hml, hown, hts⟩ (k_X2_isHigh l D cI cT w sg.heap.size p ) (va_cwS 1 hts gX2_isToldIn_X2_isHigh rfl rfl rfl (by decide +kernel) ⟨Nat.le_of_ble_eq_true rfl, Nat.le_of_ble_eq_true rfl⟩) gK_ok hK hW hS hA rfl hl.1 rfl (Nat.le_of_ble_eq_true rfl) dX2_isToldIn_13 ⟨Nat.le_of_ble_eq_true rfl, Nat.le_of_ble_eq_true rfl⟩ rfl rfl (fun r_13 w_13 H locs hp_13 hW hz hS => ?_)
      obtain ⟨q_r, q_w⟩ := hp_13
      subst r_13
      subst w_13
      refine lv_if_ne (tgt := 30) hx hb dX2_isToldIn_16 (by decide) (fun c_16 => ?_) (fun c_16 => ?_)
      ·
        have c_16 := j_bn c_16
        refine lv_iconst (v := 0) hx hb dX2_isToldIn_30 (by decide) ?_
        refine wd_zret hx hb hr hlocks (Or.inl rfl) hW hS dX2_isToldIn_31 ?_
        exact ⟨by first | (simp [j_b, j_told, c_2, c_9, c_16]; done) | (simp only [j_b, j_told, i_le]; simp [c_2, c_9, c_16]; done) | (exfalso; simp_all; done) | (simp only [j_told, j_b]; simp_all), rfl⟩
      ·
        have c_16 := j_b0 c_16
        refine lv_iload_n hx hb dX2_isToldIn_19 rfl (lv_at hl 0 rfl) ?_
        refine wd_callSi (As := [.int p]) (rest := []) (c2 := 0) (s2 := 0) ⟨hx, hb, hml, hown, hts⟩ (k_X2_isLow l D cI cT w H.size p ) (va_cwS 1 hts gX2_isToldIn_X2_isLow rfl rfl rfl (by decide +kernel) ⟨Nat.le_of_ble_eq_true rfl, Nat.le_of_ble_eq_true rfl⟩) gK_ok hK hW hS hA rfl hl.1 rfl (Nat.le_of_ble_eq_true rfl) dX2_isToldIn_20 ⟨Nat.le_of_ble_eq_true rfl, Nat.le_of_ble_eq_true rfl⟩ rfl rfl (fun r_20 w_20 H locs hp_20 hW hz hS => ?_)
        obtain ⟨q_r, q_w⟩ := hp_20
        subst r_20
        subst w_20
        refine lv_if_ne (tgt := 30) hx hb dX2_isToldIn_23 (by decide) (fun c_23 => ?_) (fun c_23 => ?_)
        ·
          have c_23 := j_bn c_23
          refine lv_iconst (v := 0) hx hb dX2_isToldIn_30 (by decide) ?_
          refine wd_zret hx hb hr hlocks (Or.inl rfl) hW hS dX2_isToldIn_31 ?_
          exact ⟨by first | (simp [j_b, j_told, c_2, c_9, c_16, c_23]; done) | (simp only [j_b, j_told, i_le]; simp [c_2, c_9, c_16, c_23]; done) | (exfalso; simp_all; done) | (simp only [j_told, j_b]; simp_all), rfl⟩
        ·
          have c_23 := j_b0 c_23
          refine lv_iconst (v := 1) hx hb dX2_isToldIn_26 (by decide) ?_
          refine lv_goto (tgt := 31) hx hb dX2_isToldIn_27 (by decide) ?_
          refine wd_zret hx hb hr hlocks (Or.inr rfl) hW hS dX2_isToldIn_31 ?_
          exact ⟨by first | (simp [j_b, j_told, c_2, c_9, c_16, c_23]; done) | (simp only [j_b, j_told, i_le]; simp [c_2, c_9, c_16, c_23]; done) | (exfalso; simp_all; done) | (simp only [j_told, j_b]; simp_all), rfl⟩
set_option maxHeartbeats 4000000 in
set_option maxRecDepth 100000 in
theorem k_X2_firstByteOffset (l : Launch) (D : va_G) (cI cT : ClassId) (w : Wd) (sz : Nat) (q : Int32) : wd_Mi l D vwCl (gK D cI cT) yX2_firstByteOffset wsX2_firstByteOffset (wd_rm 0 0 0) [.int q] w sz (fun r w' => r = j_fbo q ∧ w' = w) := by
  refine wd_met (cc := cX2_firstByteOffset) (maxL := 1) (ret := (some .int)) (by decide) rfl (Nat.le_of_ble_eq_true rfl) ?_
  intro pg ev sg mi bl mt cde ls C0 hsz hK hW hl
  obtain ⟨hx, hb, hr, hml, hown, hts, hlocks, hnm⟩ := C0
  subst hsz
  have hown : sg.vm.findClass RX2 = some mi.cls := hown
  have hS : va_S (wd_A w sg.heap.size) sg.heap sg.heap [] := va_S.rf
  have hA : ∀ q, sg.heap.size ≤ q → wd_A w sg.heap.size q := fun q h => Or.inr h
  have hl : lv_has ls 1 [(0, .int q)] := hl
  refine lv_iload_n hx hb dX2_firstByteOffset_0 rfl (lv_at hl 0 rfl) ?_
  by_cases e2 : q = 2
  ·
    refine lv_tableIn (off := 27) (tgt := 28) hx hb dX2_firstByteOffset_1 (by rw [e2]; decide) (by rw [e2]; decide) (by rw [e2]; decide) (by decide) ?_
    refine lv_sipush (v := 192) hx hb dX2_firstByteOffset_28 (by decide) ?_
    refine wd_iret hx hb hr hlocks hW hS dX2_firstByteOffset_31 ?_
    exact ⟨by first | (simp [j_fbo, e2]; done) | (simp only [j_fbo, i_le]; simp [e2]; done) | (exfalso; simp_all; done) | rfl, rfl⟩
  by_cases e3 : q = 3
  ·
    refine lv_tableIn (off := 31) (tgt := 32) hx hb dX2_firstByteOffset_1 (by rw [e3]; decide) (by rw [e3]; decide) (by rw [e3]; decide) (by decide) ?_
    refine lv_sipush (v := 224) hx hb dX2_firstByteOffset_32 (by decide) ?_
    refine wd_iret hx hb hr hlocks hW hS dX2_firstByteOffset_35 ?_
    exact ⟨by first | (simp [j_fbo, e2, e3]; done) | (simp only [j_fbo, i_le]; simp [e2, e3]; done) | (exfalso; simp_all; done) | rfl, rfl⟩
  by_cases e4 : q = 4
  ·
    refine lv_tableIn (off := 35) (tgt := 36) hx hb dX2_firstByteOffset_1 (by rw [e4]; decide) (by rw [e4]; decide) (by rw [e4]; decide) (by decide) ?_
    refine lv_sipush (v := 240) hx hb dX2_firstByteOffset_36 (by decide) ?_
    refine wd_iret hx hb hr hlocks hW hS dX2_firstByteOffset_39 ?_
    exact ⟨by first | (simp [j_fbo, e2, e3, e4]; done) | (simp only [j_fbo, i_le]; simp [e2, e3, e4]; done) | (exfalso; simp_all; done) | rfl, rfl⟩
  refine lv_tableOut (tgt := 40) hx hb dX2_firstByteOffset_1 (by have h2 : q.toInt ≠ 2 := fun h => e2 (Int32.toInt_inj.mp (h.trans rfl)); have h3 : q.toInt ≠ 3 := fun h => e3 (Int32.toInt_inj.mp (h.trans rfl)); have h4 : q.toInt ≠ 4 := fun h => e4 (Int32.toInt_inj.mp (h.trans rfl)); omega) (by decide) ?_
  refine lv_iconst (v := 0) hx hb dX2_firstByteOffset_40 (by decide) ?_
  refine wd_iret hx hb hr hlocks hW hS dX2_firstByteOffset_41 ?_
  exact ⟨by first | (simp [j_fbo, e2, e3, e4]; done) | (simp only [j_fbo, i_le]; simp [e2, e3, e4]; done) | (exfalso; simp_all; done) | rfl, rfl⟩
set_option maxHeartbeats 4000000 in
set_option maxRecDepth 100000 in
theorem k_X2_firstUntellable (l : Launch) (D : va_G) (cI cT : ClassId) (w : Wd) (sz : Nat) (r : Nat) (rI : Nat) (n : Nat) (X : Rw) (form : Int32) (hR : rowAt w r rI cI n X) : wd_Mi l D vwCl (gK D cI cT) yX2_firstUntellable wsX2_firstUntellable (wd_rm 1 0 0) [.ref r, .int form] w sz (fun q w' => q = j_fu X n form ∧ w' = w) := by
  refine wd_met (cc := cX2_firstUntellable) (maxL := 4) (ret := (some .int)) (by decide) rfl (Nat.le_of_ble_eq_true rfl) ?_
  intro pg ev sg mi bl mt cde ls C0 hsz hK hW hl
  obtain ⟨hx, hb, hr, hml, hown, hts, hlocks, hnm⟩ := C0
  subst hsz
  have hown : sg.vm.findClass RX2 = some mi.cls := hown
  have hS : va_S (wd_A w sg.heap.size) sg.heap sg.heap [] := va_S.rf
  have hA : ∀ q, sg.heap.size ≤ q → wd_A w sg.heap.size q := fun q h => Or.inr h
  have hl : lv_has ls 4 [(0, .ref r), (1, .int form)] := hl
  have hX1 := hR.2.2.1
  have hX2 := hR.2.2.2
  refine lv_iconst (v := 0) hx hb dX2_firstUntellable_0 (by decide) ?_
  refine lv_istore_n (lv' := [(2, .int 0), (0, .ref r), (1, .int form)]) hx hb dX2_firstUntellable_1 rfl hl (by decide) rfl (fun ls hl => ?_)
  refine wd_loop1 (fun (k : Nat) (H : Heap) (locs : List Loc) (ls : Array Slot) => (k ≤ min X.2 n) ∧ (j_srch (fun k => j_bad form (X.1 k)) (min X.2 n) 0 = j_srch (fun k => j_bad form (X.1 k)) (min X.2 n - k) k) ∧ wd_P D vwCl (wd_A w sg.heap.size) w H ∧ va_S (wd_A w sg.heap.size) sg.heap H locs ∧ lv_has ls 4 [(0, .ref r), (1, .int form), (2, .int (nI k))]) (fun (k : Nat) => n - k) 0 ⟨Nat.zero_le _, rfl, hW, hS, (lv_sub hl [1, 2, 0] rfl)⟩ (fun k H locs ls hI ih => ?_)
  obtain ⟨hk, hI, hW, hS, hl⟩ := hI
  refine lv_iload_n hx hb dX2_firstUntellable_2 rfl (lv_at hl 2 rfl) ?_
  refine lv_aload_n hx hb dX2_firstUntellable_3 rfl (lv_at hl 0 rfl) ?_
  refine wd_get (ci := 0) (v := .int (nI X.2)) (C := RX0) (T := TX0) (N := 2) hx hb hts (by decide +kernel) hown hK.1 hW hR.1 rfl 1 (by decide) (hts (.fieldLink RX2 48 "CharRows$Row" "count" "I") (by decide +kernel)) (fun _ h9 => h9) rfl dX2_firstUntellable_4 ?_
  refine lv_icmp_ge (tgt := 63) hx hb dX2_firstUntellable_7 (by decide) (fun c_7 => ?_) (fun c_7 => ?_)
  ·
    have c_7 : X.2 ≤ k := (nI_leI (by omega) (by omega)).mp (show (nI X.2 ≤ nI k) from c_7)
    refine lv_iconst (v := (-1)) hx hb dX2_firstUntellable_63 (by decide) ?_
    refine wd_iret hx hb hr hlocks hW hS dX2_firstUntellable_64 ?_
    exact ⟨by rw [j_fu, hI]; exact (j_srch_0 (by omega)).symm, rfl⟩
  ·
    have c_7 : ¬ (X.2 ≤ k) := fun q9 => absurd ((nI_leI (by omega) (by omega)).mpr q9) (show ¬ (nI X.2 ≤ nI k) from c_7)
    refine lv_iload_n hx hb dX2_firstUntellable_10 rfl (lv_at hl 2 rfl) ?_
    refine lv_aload_n hx hb dX2_firstUntellable_11 rfl (lv_at hl 0 rfl) ?_
    refine wd_get (ci := 0) (v := .ref rI) (C := RX0) (T := TX0) (N := 2) hx hb hts (by decide +kernel) hown hK.1 hW hR.1 rfl 0 (by decide) (hts (.fieldLink RX2 74 "CharRows$Row" "items" "[I") (by decide +kernel)) (fun _ h9 => h9) rfl dX2_firstUntellable_12 ?_
    refine wd_alen hx hb hK.1 hW 0 hR.2.1 rfl dX2_firstUntellable_15 ?_
    refine lv_icmp_ge (tgt := 63) hx hb dX2_firstUntellable_16 (by decide) (fun c_16 => ?_) (fun c_16 => ?_)
    ·
      have c_16 : n ≤ k := (nI_leI (by omega) (by omega)).mp (show (nI n ≤ nI k) from c_16)
      refine lv_iconst (v := (-1)) hx hb dX2_firstUntellable_63 (by decide) ?_
      refine wd_iret hx hb hr hlocks hW hS dX2_firstUntellable_64 ?_
      exact ⟨by rw [j_fu, hI]; exact (j_srch_0 (by omega)).symm, rfl⟩
    ·
      have c_16 : ¬ (n ≤ k) := fun q9 => absurd ((nI_leI (by omega) (by omega)).mpr q9) (show ¬ (nI n ≤ nI k) from c_16)
      refine lv_aload_n hx hb dX2_firstUntellable_19 rfl (lv_at hl 0 rfl) ?_
      refine wd_get (ci := 0) (v := .ref rI) (C := RX0) (T := TX0) (N := 2) hx hb hts (by decide +kernel) hown hK.1 hW hR.1 rfl 0 (by decide) (hts (.fieldLink RX2 74 "CharRows$Row" "items" "[I") (by decide +kernel)) (fun _ h9 => h9) rfl dX2_firstUntellable_20 ?_
      refine lv_iload_n hx hb dX2_firstUntellable_23 rfl (lv_at hl 2 rfl) ?_
      refine wd_iald hx hb hK.1 hW 0 hR.2.1 rfl (vp_in_nI (by omega) (by omega)) dX2_firstUntellable_24 ?_
      refine wd_topE (y := X.1 k) (by rw [nI_clamp (by omega)]) ?_
      refine lv_istore_n (lv' := [(3, .int (X.1 k)), (0, .ref r), (1, .int form), (2, .int (nI k))]) hx hb dX2_firstUntellable_25 rfl hl (by decide) rfl (fun ls hl => ?_)
      refine lv_iload_n hx hb dX2_firstUntellable_26 rfl (lv_at hl 2 rfl) ?_
      refine lv_iconst (v := 3) hx hb dX2_firstUntellable_27 (by decide) ?_
      refine lv_icmp_ne (tgt := 41) hx hb dX2_firstUntellable_28 (by decide) (fun c_28 => ?_) (fun c_28 => ?_)
      ·
        refine lv_iload_n hx hb dX2_firstUntellable_41 rfl (lv_at hl 0 rfl) ?_
        refine wd_callSi (As := [.int (X.1 k)]) (rest := []) (c2 := 0) (s2 := 0) ⟨hx, hb, hml, hown, hts⟩ (k_X2_isHigh l D cI cT w H.size (X.1 k) ) (va_cwS 1 hts gX2_firstUntellable_X2_isHigh rfl rfl rfl (by decide +kernel) ⟨Nat.le_of_ble_eq_true rfl, Nat.le_of_ble_eq_true rfl⟩) gK_ok hK hW hS hA rfl hl.1 rfl (Nat.le_of_ble_eq_true rfl) dX2_firstUntellable_42 ⟨Nat.le_of_ble_eq_true rfl, Nat.le_of_ble_eq_true rfl⟩ rfl rfl (fun r_42 w_42 H locs hp_42 hW hz hS => ?_)
        obtain ⟨q_r, q_w⟩ := hp_42
        subst r_42
        subst w_42
        refine lv_if_ne (tgt := 55) hx hb dX2_firstUntellable_45 (by decide) (fun c_45 => ?_) (fun c_45 => ?_)
        ·
          have c_45 := j_bn c_45
          refine lv_iload_n hx hb dX2_firstUntellable_55 rfl (lv_at hl 3 rfl) ?_
          refine wd_iret hx hb hr hlocks hW hS dX2_firstUntellable_56 ?_
          exact ⟨by rw [j_fu, hI]; exact (j_srch_hit (P := fun k => j_bad form (X.1 k)) (by show j_bad form (X.1 k); rw [j_bad, if_neg c_28]; exact Or.inl c_45) (by omega)).symm, rfl⟩
        ·
          have c_45 := j_b0 c_45
          refine lv_iload_n hx hb dX2_firstUntellable_48 rfl (lv_at hl 0 rfl) ?_
          refine wd_callSi (As := [.int (X.1 k)]) (rest := []) (c2 := 0) (s2 := 0) ⟨hx, hb, hml, hown, hts⟩ (k_X2_isLow l D cI cT w H.size (X.1 k) ) (va_cwS 1 hts gX2_firstUntellable_X2_isLow rfl rfl rfl (by decide +kernel) ⟨Nat.le_of_ble_eq_true rfl, Nat.le_of_ble_eq_true rfl⟩) gK_ok hK hW hS hA rfl hl.1 rfl (Nat.le_of_ble_eq_true rfl) dX2_firstUntellable_49 ⟨Nat.le_of_ble_eq_true rfl, Nat.le_of_ble_eq_true rfl⟩ rfl rfl (fun r_49 w_49 H locs hp_49 hW hz hS => ?_)
          obtain ⟨q_r, q_w⟩ := hp_49
          subst r_49
          subst w_49
          refine lv_if_eq (tgt := 57) hx hb dX2_firstUntellable_52 (by decide) (fun c_52 => ?_) (fun c_52 => ?_)
          ·
            have c_52 := j_b0 c_52
            refine lv_iinc (v := nI (k + 1)) (lv' := [(2, .int (nI (k + 1))), (3, .int (X.1 k)), (0, .ref r), (1, .int form)]) hx hb dX2_firstUntellable_57 hl (k := 3) rfl (nI_add k 1) (by decide) rfl (fun ls hl => ?_)
            refine lv_goto (tgt := 2) hx hb dX2_firstUntellable_60 (by decide) ?_
            exact ih (k + 1) H locs ls ⟨(by omega), (hI.trans ((j_srch_miss (P := fun k => j_bad form (X.1 k)) (by show ¬ j_bad form (X.1 k); rw [j_bad, if_neg c_28]; exact fun h => h.elim c_45 c_52) (by omega)).trans (by rw [show min X.2 n - k - 1 = min X.2 n - (k + 1) by omega]))), hW, hS, (lv_sub hl [2, 3, 0] rfl)⟩ (by omega)
          ·
            have c_52 := j_bn c_52
            refine lv_iload_n hx hb dX2_firstUntellable_55 rfl (lv_at hl 3 rfl) ?_
            refine wd_iret hx hb hr hlocks hW hS dX2_firstUntellable_56 ?_
            exact ⟨by rw [j_fu, hI]; exact (j_srch_hit (P := fun k => j_bad form (X.1 k)) (by show j_bad form (X.1 k); rw [j_bad, if_neg c_28]; exact Or.inr c_52) (by omega)).symm, rfl⟩
      ·
        refine lv_iload_n hx hb dX2_firstUntellable_31 rfl (lv_at hl 0 rfl) ?_
        refine lv_sipush (v := 255) hx hb dX2_firstUntellable_32 (by decide) ?_
        refine lv_icmp_le (tgt := 57) hx hb dX2_firstUntellable_35 (by decide) (fun c_35 => ?_) (fun c_35 => ?_)
        ·
          simp only [i_le, Decidable.not_not] at c_35
          refine lv_iinc (v := nI (k + 1)) (lv' := [(2, .int (nI (k + 1))), (3, .int (X.1 k)), (0, .ref r), (1, .int form)]) hx hb dX2_firstUntellable_57 hl (k := 3) rfl (nI_add k 1) (by decide) rfl (fun ls hl => ?_)
          refine lv_goto (tgt := 2) hx hb dX2_firstUntellable_60 (by decide) ?_
          exact ih (k + 1) H locs ls ⟨(by omega), (hI.trans ((j_srch_miss (P := fun k => j_bad form (X.1 k)) (by show ¬ j_bad form (X.1 k); rw [j_bad, if_pos (by simpa using c_28)]; exact c_35) (by omega)).trans (by rw [show min X.2 n - k - 1 = min X.2 n - (k + 1) by omega]))), hW, hS, (lv_sub hl [2, 3, 0] rfl)⟩ (by omega)
        ·
          simp only [i_le, Decidable.not_not] at c_35
          refine lv_goto (tgt := 55) hx hb dX2_firstUntellable_38 (by decide) ?_
          refine lv_iload_n hx hb dX2_firstUntellable_55 rfl (lv_at hl 3 rfl) ?_
          refine wd_iret hx hb hr hlocks hW hS dX2_firstUntellable_56 ?_
          exact ⟨by rw [j_fu, hI]; exact (j_srch_hit (P := fun k => j_bad form (X.1 k)) (by show j_bad form (X.1 k); rw [j_bad, if_pos (by simpa using c_28)]; exact c_35) (by omega)).symm, rfl⟩
set_option maxHeartbeats 4000000 in
set_option maxRecDepth 100000 in
theorem k_X2_tellInManyBytes (l : Launch) (D : va_G) (cI cT : ClassId) (w : Wd) (sz : Nat) (r : Nat) (rI : Nat) (n : Nat) (X : Rw) (p : Int32) (hR : rowAt w r rI cI n X) : wd_Mv l D vwCl (gK D cI cT) yX2_tellInManyBytes wsX2_tellInManyBytes (wd_rm 1 0 0) [.int p, .ref r] w sz (fun w' => w' = rowSet w r rI cI n (r_mb n p X)) := by
  refine wd_met (cc := cX2_tellInManyBytes) (maxL := 2) (ret := none) (by decide) rfl (Nat.le_of_ble_eq_true rfl) ?_
  intro pg ev sg mi bl mt cde ls C0 hsz hK hW hl
  obtain ⟨hx, hb, hr, hml, hown, hts, hlocks, hnm⟩ := C0
  subst hsz
  have hown : sg.vm.findClass RX2 = some mi.cls := hown
  have hS : va_S (wd_A w sg.heap.size) sg.heap sg.heap [] := va_S.rf
  have hA : ∀ q, sg.heap.size ≤ q → wd_A w sg.heap.size q := fun q h => Or.inr h
  have hl : lv_has ls 2 [(0, .int p), (1, .ref r)] := hl
  refine lv_iload_n hx hb dX2_tellInManyBytes_0 rfl (lv_at hl 0 rfl) ?_
  refine lv_sipush (v := 128) hx hb dX2_tellInManyBytes_1 (by decide) ?_
  refine lv_icmp_ge (tgt := 13) hx hb dX2_tellInManyBytes_4 (by decide) (fun c_4 => ?_) (fun c_4 => ?_)
  ·
    simp only [i_le, Decidable.not_not] at c_4
    refine lv_iload_n hx hb dX2_tellInManyBytes_13 rfl (lv_at hl 0 rfl) ?_
    refine lv_sipush (v := 2048) hx hb dX2_tellInManyBytes_14 (by decide) ?_
    refine lv_icmp_ge (tgt := 35) hx hb dX2_tellInManyBytes_17 (by decide) (fun c_17 => ?_) (fun c_17 => ?_)
    ·
      simp only [i_le, Decidable.not_not] at c_17
      refine lv_iload_n hx hb dX2_tellInManyBytes_35 rfl (lv_at hl 0 rfl) ?_
      refine lv_ldc (v := 65536) hx hb hown (hts (.constant RX2 173 65536) (by decide +kernel)) dX2_tellInManyBytes_36 ?_
      refine lv_icmp_ge (tgt := 72) hx hb dX2_tellInManyBytes_38 (by decide) (fun c_38 => ?_) (fun c_38 => ?_)
      ·
        simp only [i_le, Decidable.not_not] at c_38
        refine lv_aload_n hx hb dX2_tellInManyBytes_72 rfl (lv_at hl 1 rfl) ?_
        refine lv_sipush (v := 240) hx hb dX2_tellInManyBytes_73 (by decide) ?_
        refine lv_iload_n hx hb dX2_tellInManyBytes_76 rfl (lv_at hl 0 rfl) ?_
        refine lv_ldc (v := 262144) hx hb hown (hts (.constant RX2 192 262144) (by decide +kernel)) dX2_tellInManyBytes_77 ?_
        refine lv_idiv hx hb dX2_tellInManyBytes_79 (by decide) ?_
        refine lv_iadd hx hb dX2_tellInManyBytes_80 ?_
        refine wd_callVv (As := [.int (240 + (p / 262144))]) (rest := []) (c2 := 0) (s2 := 0) ⟨hx, hb, hml, hown, hts⟩ (k_X0_add l D cI cT w sg.heap.size r rI n X (240 + (p / 262144)) hR) (cwV 1 hts gX2_tellInManyBytes_X0_add rfl rfl rfl (by decide +kernel) ⟨Nat.le_of_ble_eq_true rfl, Nat.le_of_ble_eq_true rfl⟩) gK_ok hK hW (wd_recv (ci := 0) hK.1 hW rfl hR.1) hS hA rfl hl.1 rfl (Nat.le_of_ble_eq_true rfl) dX2_tellInManyBytes_81 ⟨Nat.le_of_ble_eq_true rfl, Nat.le_of_ble_eq_true rfl⟩ rfl rfl (fun w_81 H locs hp_81 hW hz hS => ?_)
        subst w_81
        have hR_81 : rowAt (rowSet w r rI cI n (r_add n (240 + (p / 262144)) X)) r rI cI n (r_add n (240 + (p / 262144)) X) := rowSet_at hR.ne (r_add_le hR.2.2.1) hR.2.2.2
        refine lv_aload_n hx hb dX2_tellInManyBytes_84 rfl (lv_at hl 1 rfl) ?_
        refine lv_sipush (v := 128) hx hb dX2_tellInManyBytes_85 (by decide) ?_
        refine lv_iload_n hx hb dX2_tellInManyBytes_88 rfl (lv_at hl 0 rfl) ?_
        refine lv_sipush (v := 4096) hx hb dX2_tellInManyBytes_89 (by decide) ?_
        refine lv_idiv hx hb dX2_tellInManyBytes_92 (by decide) ?_
        refine lv_bipush (v := 64) hx hb dX2_tellInManyBytes_93 (by decide) ?_
        refine lv_irem hx hb dX2_tellInManyBytes_95 (by decide) ?_
        refine lv_iadd hx hb dX2_tellInManyBytes_96 ?_
        refine wd_callVv (As := [.int (128 + ((p / 4096) - (p / 4096) / 64 * 64))]) (rest := []) (c2 := 0) (s2 := 0) ⟨hx, hb, hml, hown, hts⟩ (k_X0_add l D cI cT (rowSet w r rI cI n (r_add n (240 + (p / 262144)) X)) H.size r rI n (r_add n (240 + (p / 262144)) X) (128 + ((p / 4096) - (p / 4096) / 64 * 64)) hR_81) (cwV 1 hts gX2_tellInManyBytes_X0_add rfl rfl rfl (by decide +kernel) ⟨Nat.le_of_ble_eq_true rfl, Nat.le_of_ble_eq_true rfl⟩) gK_ok hK hW (wd_recv (ci := 0) hK.1 hW rfl hR_81.1) hS hA rfl hl.1 rfl (Nat.le_of_ble_eq_true rfl) dX2_tellInManyBytes_97 ⟨Nat.le_of_ble_eq_true rfl, Nat.le_of_ble_eq_true rfl⟩ rfl rfl (fun w_97 H locs hp_97 hW hz hS => ?_)
        subst w_97
        rw [rowSet_twice] at hW
        have hR_97 : rowAt (rowSet w r rI cI n (r_add n (128 + ((p / 4096) - (p / 4096) / 64 * 64)) (r_add n (240 + (p / 262144)) X))) r rI cI n (r_add n (128 + ((p / 4096) - (p / 4096) / 64 * 64)) (r_add n (240 + (p / 262144)) X)) := rowSet_at hR_81.ne (r_add_le hR_81.2.2.1) hR_81.2.2.2
        refine lv_aload_n hx hb dX2_tellInManyBytes_100 rfl (lv_at hl 1 rfl) ?_
        refine lv_sipush (v := 128) hx hb dX2_tellInManyBytes_101 (by decide) ?_
        refine lv_iload_n hx hb dX2_tellInManyBytes_104 rfl (lv_at hl 0 rfl) ?_
        refine lv_bipush (v := 64) hx hb dX2_tellInManyBytes_105 (by decide) ?_
        refine lv_idiv hx hb dX2_tellInManyBytes_107 (by decide) ?_
        refine lv_bipush (v := 64) hx hb dX2_tellInManyBytes_108 (by decide) ?_
        refine lv_irem hx hb dX2_tellInManyBytes_110 (by decide) ?_
        refine lv_iadd hx hb dX2_tellInManyBytes_111 ?_
        refine wd_callVv (As := [.int (128 + ((p / 64) - (p / 64) / 64 * 64))]) (rest := []) (c2 := 0) (s2 := 0) ⟨hx, hb, hml, hown, hts⟩ (k_X0_add l D cI cT (rowSet w r rI cI n (r_add n (128 + ((p / 4096) - (p / 4096) / 64 * 64)) (r_add n (240 + (p / 262144)) X))) H.size r rI n (r_add n (128 + ((p / 4096) - (p / 4096) / 64 * 64)) (r_add n (240 + (p / 262144)) X)) (128 + ((p / 64) - (p / 64) / 64 * 64)) hR_97) (cwV 1 hts gX2_tellInManyBytes_X0_add rfl rfl rfl (by decide +kernel) ⟨Nat.le_of_ble_eq_true rfl, Nat.le_of_ble_eq_true rfl⟩) gK_ok hK hW (wd_recv (ci := 0) hK.1 hW rfl hR_97.1) hS hA rfl hl.1 rfl (Nat.le_of_ble_eq_true rfl) dX2_tellInManyBytes_112 ⟨Nat.le_of_ble_eq_true rfl, Nat.le_of_ble_eq_true rfl⟩ rfl rfl (fun w_112 H locs hp_112 hW hz hS => ?_)
        subst w_112
        rw [rowSet_twice] at hW
        have hR_112 : rowAt (rowSet w r rI cI n (r_add n (128 + ((p / 64) - (p / 64) / 64 * 64)) (r_add n (128 + ((p / 4096) - (p / 4096) / 64 * 64)) (r_add n (240 + (p / 262144)) X)))) r rI cI n (r_add n (128 + ((p / 64) - (p / 64) / 64 * 64)) (r_add n (128 + ((p / 4096) - (p / 4096) / 64 * 64)) (r_add n (240 + (p / 262144)) X))) := rowSet_at hR_97.ne (r_add_le hR_97.2.2.1) hR_97.2.2.2
        refine lv_aload_n hx hb dX2_tellInManyBytes_115 rfl (lv_at hl 1 rfl) ?_
        refine lv_sipush (v := 128) hx hb dX2_tellInManyBytes_116 (by decide) ?_
        refine lv_iload_n hx hb dX2_tellInManyBytes_119 rfl (lv_at hl 0 rfl) ?_
        refine lv_bipush (v := 64) hx hb dX2_tellInManyBytes_120 (by decide) ?_
        refine lv_irem hx hb dX2_tellInManyBytes_122 (by decide) ?_
        refine lv_iadd hx hb dX2_tellInManyBytes_123 ?_
        refine wd_callVv (As := [.int (128 + (p - p / 64 * 64))]) (rest := []) (c2 := 0) (s2 := 0) ⟨hx, hb, hml, hown, hts⟩ (k_X0_add l D cI cT (rowSet w r rI cI n (r_add n (128 + ((p / 64) - (p / 64) / 64 * 64)) (r_add n (128 + ((p / 4096) - (p / 4096) / 64 * 64)) (r_add n (240 + (p / 262144)) X)))) H.size r rI n (r_add n (128 + ((p / 64) - (p / 64) / 64 * 64)) (r_add n (128 + ((p / 4096) - (p / 4096) / 64 * 64)) (r_add n (240 + (p / 262144)) X))) (128 + (p - p / 64 * 64)) hR_112) (cwV 1 hts gX2_tellInManyBytes_X0_add rfl rfl rfl (by decide +kernel) ⟨Nat.le_of_ble_eq_true rfl, Nat.le_of_ble_eq_true rfl⟩) gK_ok hK hW (wd_recv (ci := 0) hK.1 hW rfl hR_112.1) hS hA rfl hl.1 rfl (Nat.le_of_ble_eq_true rfl) dX2_tellInManyBytes_124 ⟨Nat.le_of_ble_eq_true rfl, Nat.le_of_ble_eq_true rfl⟩ rfl rfl (fun w_124 H locs hp_124 hW hz hS => ?_)
        subst w_124
        rw [rowSet_twice] at hW
        have hR_124 : rowAt (rowSet w r rI cI n (r_add n (128 + (p - p / 64 * 64)) (r_add n (128 + ((p / 64) - (p / 64) / 64 * 64)) (r_add n (128 + ((p / 4096) - (p / 4096) / 64 * 64)) (r_add n (240 + (p / 262144)) X))))) r rI cI n (r_add n (128 + (p - p / 64 * 64)) (r_add n (128 + ((p / 64) - (p / 64) / 64 * 64)) (r_add n (128 + ((p / 4096) - (p / 4096) / 64 * 64)) (r_add n (240 + (p / 262144)) X)))) := rowSet_at hR_112.ne (r_add_le hR_112.2.2.1) hR_112.2.2.2
        refine wd_vret hx hb hr hlocks hW hS dX2_tellInManyBytes_127 ?_
        show _ = _
        rw [r_mb]
        simp [c_4, c_17, c_38]
      ·
        simp only [i_le, Decidable.not_not] at c_38
        refine lv_aload_n hx hb dX2_tellInManyBytes_41 rfl (lv_at hl 1 rfl) ?_
        refine lv_sipush (v := 224) hx hb dX2_tellInManyBytes_42 (by decide) ?_
        refine lv_iload_n hx hb dX2_tellInManyBytes_45 rfl (lv_at hl 0 rfl) ?_
        refine lv_sipush (v := 4096) hx hb dX2_tellInManyBytes_46 (by decide) ?_
        refine lv_idiv hx hb dX2_tellInManyBytes_49 (by decide) ?_
        refine lv_iadd hx hb dX2_tellInManyBytes_50 ?_
        refine wd_callVv (As := [.int (224 + (p / 4096))]) (rest := []) (c2 := 0) (s2 := 0) ⟨hx, hb, hml, hown, hts⟩ (k_X0_add l D cI cT w sg.heap.size r rI n X (224 + (p / 4096)) hR) (cwV 1 hts gX2_tellInManyBytes_X0_add rfl rfl rfl (by decide +kernel) ⟨Nat.le_of_ble_eq_true rfl, Nat.le_of_ble_eq_true rfl⟩) gK_ok hK hW (wd_recv (ci := 0) hK.1 hW rfl hR.1) hS hA rfl hl.1 rfl (Nat.le_of_ble_eq_true rfl) dX2_tellInManyBytes_51 ⟨Nat.le_of_ble_eq_true rfl, Nat.le_of_ble_eq_true rfl⟩ rfl rfl (fun w_51 H locs hp_51 hW hz hS => ?_)
        subst w_51
        have hR_51 : rowAt (rowSet w r rI cI n (r_add n (224 + (p / 4096)) X)) r rI cI n (r_add n (224 + (p / 4096)) X) := rowSet_at hR.ne (r_add_le hR.2.2.1) hR.2.2.2
        refine lv_aload_n hx hb dX2_tellInManyBytes_54 rfl (lv_at hl 1 rfl) ?_
        refine lv_sipush (v := 128) hx hb dX2_tellInManyBytes_55 (by decide) ?_
        refine lv_iload_n hx hb dX2_tellInManyBytes_58 rfl (lv_at hl 0 rfl) ?_
        refine lv_bipush (v := 64) hx hb dX2_tellInManyBytes_59 (by decide) ?_
        refine lv_idiv hx hb dX2_tellInManyBytes_61 (by decide) ?_
        refine lv_bipush (v := 64) hx hb dX2_tellInManyBytes_62 (by decide) ?_
        refine lv_irem hx hb dX2_tellInManyBytes_64 (by decide) ?_
        refine lv_iadd hx hb dX2_tellInManyBytes_65 ?_
        refine wd_callVv (As := [.int (128 + ((p / 64) - (p / 64) / 64 * 64))]) (rest := []) (c2 := 0) (s2 := 0) ⟨hx, hb, hml, hown, hts⟩ (k_X0_add l D cI cT (rowSet w r rI cI n (r_add n (224 + (p / 4096)) X)) H.size r rI n (r_add n (224 + (p / 4096)) X) (128 + ((p / 64) - (p / 64) / 64 * 64)) hR_51) (cwV 1 hts gX2_tellInManyBytes_X0_add rfl rfl rfl (by decide +kernel) ⟨Nat.le_of_ble_eq_true rfl, Nat.le_of_ble_eq_true rfl⟩) gK_ok hK hW (wd_recv (ci := 0) hK.1 hW rfl hR_51.1) hS hA rfl hl.1 rfl (Nat.le_of_ble_eq_true rfl) dX2_tellInManyBytes_66 ⟨Nat.le_of_ble_eq_true rfl, Nat.le_of_ble_eq_true rfl⟩ rfl rfl (fun w_66 H locs hp_66 hW hz hS => ?_)
        subst w_66
        rw [rowSet_twice] at hW
        have hR_66 : rowAt (rowSet w r rI cI n (r_add n (128 + ((p / 64) - (p / 64) / 64 * 64)) (r_add n (224 + (p / 4096)) X))) r rI cI n (r_add n (128 + ((p / 64) - (p / 64) / 64 * 64)) (r_add n (224 + (p / 4096)) X)) := rowSet_at hR_51.ne (r_add_le hR_51.2.2.1) hR_51.2.2.2
        refine lv_goto (tgt := 115) hx hb dX2_tellInManyBytes_69 (by decide) ?_
        refine lv_aload_n hx hb dX2_tellInManyBytes_115 rfl (lv_at hl 1 rfl) ?_
        refine lv_sipush (v := 128) hx hb dX2_tellInManyBytes_116 (by decide) ?_
        refine lv_iload_n hx hb dX2_tellInManyBytes_119 rfl (lv_at hl 0 rfl) ?_
        refine lv_bipush (v := 64) hx hb dX2_tellInManyBytes_120 (by decide) ?_
        refine lv_irem hx hb dX2_tellInManyBytes_122 (by decide) ?_
        refine lv_iadd hx hb dX2_tellInManyBytes_123 ?_
        refine wd_callVv (As := [.int (128 + (p - p / 64 * 64))]) (rest := []) (c2 := 0) (s2 := 0) ⟨hx, hb, hml, hown, hts⟩ (k_X0_add l D cI cT (rowSet w r rI cI n (r_add n (128 + ((p / 64) - (p / 64) / 64 * 64)) (r_add n (224 + (p / 4096)) X))) H.size r rI n (r_add n (128 + ((p / 64) - (p / 64) / 64 * 64)) (r_add n (224 + (p / 4096)) X)) (128 + (p - p / 64 * 64)) hR_66) (cwV 1 hts gX2_tellInManyBytes_X0_add rfl rfl rfl (by decide +kernel) ⟨Nat.le_of_ble_eq_true rfl, Nat.le_of_ble_eq_true rfl⟩) gK_ok hK hW (wd_recv (ci := 0) hK.1 hW rfl hR_66.1) hS hA rfl hl.1 rfl (Nat.le_of_ble_eq_true rfl) dX2_tellInManyBytes_124 ⟨Nat.le_of_ble_eq_true rfl, Nat.le_of_ble_eq_true rfl⟩ rfl rfl (fun w_124 H locs hp_124 hW hz hS => ?_)
        subst w_124
        rw [rowSet_twice] at hW
        have hR_124 : rowAt (rowSet w r rI cI n (r_add n (128 + (p - p / 64 * 64)) (r_add n (128 + ((p / 64) - (p / 64) / 64 * 64)) (r_add n (224 + (p / 4096)) X)))) r rI cI n (r_add n (128 + (p - p / 64 * 64)) (r_add n (128 + ((p / 64) - (p / 64) / 64 * 64)) (r_add n (224 + (p / 4096)) X))) := rowSet_at hR_66.ne (r_add_le hR_66.2.2.1) hR_66.2.2.2
        refine wd_vret hx hb hr hlocks hW hS dX2_tellInManyBytes_127 ?_
        show _ = _
        rw [r_mb]
        simp [c_4, c_17, c_38]
    ·
      simp only [i_le, Decidable.not_not] at c_17
      refine lv_aload_n hx hb dX2_tellInManyBytes_20 rfl (lv_at hl 1 rfl) ?_
      refine lv_sipush (v := 192) hx hb dX2_tellInManyBytes_21 (by decide) ?_
      refine lv_iload_n hx hb dX2_tellInManyBytes_24 rfl (lv_at hl 0 rfl) ?_
      refine lv_bipush (v := 64) hx hb dX2_tellInManyBytes_25 (by decide) ?_
      refine lv_idiv hx hb dX2_tellInManyBytes_27 (by decide) ?_
      refine lv_iadd hx hb dX2_tellInManyBytes_28 ?_
      refine wd_callVv (As := [.int (192 + (p / 64))]) (rest := []) (c2 := 0) (s2 := 0) ⟨hx, hb, hml, hown, hts⟩ (k_X0_add l D cI cT w sg.heap.size r rI n X (192 + (p / 64)) hR) (cwV 1 hts gX2_tellInManyBytes_X0_add rfl rfl rfl (by decide +kernel) ⟨Nat.le_of_ble_eq_true rfl, Nat.le_of_ble_eq_true rfl⟩) gK_ok hK hW (wd_recv (ci := 0) hK.1 hW rfl hR.1) hS hA rfl hl.1 rfl (Nat.le_of_ble_eq_true rfl) dX2_tellInManyBytes_29 ⟨Nat.le_of_ble_eq_true rfl, Nat.le_of_ble_eq_true rfl⟩ rfl rfl (fun w_29 H locs hp_29 hW hz hS => ?_)
      subst w_29
      have hR_29 : rowAt (rowSet w r rI cI n (r_add n (192 + (p / 64)) X)) r rI cI n (r_add n (192 + (p / 64)) X) := rowSet_at hR.ne (r_add_le hR.2.2.1) hR.2.2.2
      refine lv_goto (tgt := 115) hx hb dX2_tellInManyBytes_32 (by decide) ?_
      refine lv_aload_n hx hb dX2_tellInManyBytes_115 rfl (lv_at hl 1 rfl) ?_
      refine lv_sipush (v := 128) hx hb dX2_tellInManyBytes_116 (by decide) ?_
      refine lv_iload_n hx hb dX2_tellInManyBytes_119 rfl (lv_at hl 0 rfl) ?_
      refine lv_bipush (v := 64) hx hb dX2_tellInManyBytes_120 (by decide) ?_
      refine lv_irem hx hb dX2_tellInManyBytes_122 (by decide) ?_
      refine lv_iadd hx hb dX2_tellInManyBytes_123 ?_
      refine wd_callVv (As := [.int (128 + (p - p / 64 * 64))]) (rest := []) (c2 := 0) (s2 := 0) ⟨hx, hb, hml, hown, hts⟩ (k_X0_add l D cI cT (rowSet w r rI cI n (r_add n (192 + (p / 64)) X)) H.size r rI n (r_add n (192 + (p / 64)) X) (128 + (p - p / 64 * 64)) hR_29) (cwV 1 hts gX2_tellInManyBytes_X0_add rfl rfl rfl (by decide +kernel) ⟨Nat.le_of_ble_eq_true rfl, Nat.le_of_ble_eq_true rfl⟩) gK_ok hK hW (wd_recv (ci := 0) hK.1 hW rfl hR_29.1) hS hA rfl hl.1 rfl (Nat.le_of_ble_eq_true rfl) dX2_tellInManyBytes_124 ⟨Nat.le_of_ble_eq_true rfl, Nat.le_of_ble_eq_true rfl⟩ rfl rfl (fun w_124 H locs hp_124 hW hz hS => ?_)
      subst w_124
      rw [rowSet_twice] at hW
      have hR_124 : rowAt (rowSet w r rI cI n (r_add n (128 + (p - p / 64 * 64)) (r_add n (192 + (p / 64)) X))) r rI cI n (r_add n (128 + (p - p / 64 * 64)) (r_add n (192 + (p / 64)) X)) := rowSet_at hR_29.ne (r_add_le hR_29.2.2.1) hR_29.2.2.2
      refine wd_vret hx hb hr hlocks hW hS dX2_tellInManyBytes_127 ?_
      show _ = _
      rw [r_mb]
      simp [c_4, c_17]
  ·
    simp only [i_le, Decidable.not_not] at c_4
    refine lv_aload_n hx hb dX2_tellInManyBytes_7 rfl (lv_at hl 1 rfl) ?_
    refine lv_iload_n hx hb dX2_tellInManyBytes_8 rfl (lv_at hl 0 rfl) ?_
    refine wd_callVv (As := [.int p]) (rest := []) (c2 := 0) (s2 := 0) ⟨hx, hb, hml, hown, hts⟩ (k_X0_add l D cI cT w sg.heap.size r rI n X p hR) (cwV 1 hts gX2_tellInManyBytes_X0_add rfl rfl rfl (by decide +kernel) ⟨Nat.le_of_ble_eq_true rfl, Nat.le_of_ble_eq_true rfl⟩) gK_ok hK hW (wd_recv (ci := 0) hK.1 hW rfl hR.1) hS hA rfl hl.1 rfl (Nat.le_of_ble_eq_true rfl) dX2_tellInManyBytes_9 ⟨Nat.le_of_ble_eq_true rfl, Nat.le_of_ble_eq_true rfl⟩ rfl rfl (fun w_9 H locs hp_9 hW hz hS => ?_)
    subst w_9
    have hR_9 : rowAt (rowSet w r rI cI n (r_add n p X)) r rI cI n (r_add n p X) := rowSet_at hR.ne (r_add_le hR.2.2.1) hR.2.2.2
    refine wd_vret hx hb hr hlocks hW hS dX2_tellInManyBytes_12 ?_
    show _ = _
    rw [r_mb]
    simp [c_4]
set_option maxHeartbeats 4000000 in
set_option maxRecDepth 100000 in
theorem k_X2_tellUnits (l : Launch) (D : va_G) (cI cT : ClassId) (w : Wd) (sz : Nat) (r2 : Nat) (rI2 : Nat) (n2 : Nat) (X2 : Rw) (form : Int32) (r : Nat) (rI : Nat) (n : Nat) (X : Rw) (hR2 : rowAt w r2 rI2 cI n2 X2) (hR : rowAt w r rI cI n X) (hn1 : r2 ≠ r) (hn2 : rI2 ≠ rI) : wd_Mv l D vwCl (gK D cI cT) yX2_tellUnits wsX2_tellUnits (wd_rm 1 0 0) [.ref r2, .int form, .ref r] w sz (fun w' => w' = rowSet w r rI cI n (r_tu n2 n form X2 X)) := by
  refine wd_met (cc := cX2_tellUnits) (maxL := 6) (ret := none) (by decide) rfl (Nat.le_of_ble_eq_true rfl) ?_
  intro pg ev sg mi bl mt cde ls C0 hsz hK hW hl
  obtain ⟨hx, hb, hr, hml, hown, hts, hlocks, hnm⟩ := C0
  subst hsz
  have hown : sg.vm.findClass RX2 = some mi.cls := hown
  have hS : va_S (wd_A w sg.heap.size) sg.heap sg.heap [] := va_S.rf
  have hA : ∀ q, sg.heap.size ≤ q → wd_A w sg.heap.size q := fun q h => Or.inr h
  have hl : lv_has ls 6 [(0, .ref r2), (1, .int form), (2, .ref r)] := hl
  have hX1 := hR.2.2.1
  have hX2 := hR.2.2.2
  have hY1 := hR2.2.2.1
  have hY2 := hR2.2.2.2
  refine lv_iconst (v := 0) hx hb dX2_tellUnits_0 (by decide) ?_
  refine lv_istore_n (lv' := [(3, .int 0), (0, .ref r2), (1, .int form), (2, .ref r)]) hx hb dX2_tellUnits_1 rfl hl (by decide) rfl (fun ls hl => ?_)
  refine wd_loop1 (fun (k : Nat) (H : Heap) (locs : List Loc) (ls : Array Slot) => (k ≤ min X2.2 n2) ∧ wd_P D vwCl (wd_A w sg.heap.size) (rowSet w r rI cI n (itN (fun k Y => r_tu1 n form (X2.1 k) Y) k X)) H ∧ va_S (wd_A w sg.heap.size) sg.heap H locs ∧ lv_has ls 6 [(0, .ref r2), (1, .int form), (2, .ref r), (3, .int (nI k))]) (fun (k : Nat) => n2 - k) 0 ⟨Nat.zero_le _, (by rw [show itN (fun k Y => r_tu1 n form (X2.1 k) Y) 0 X = X from rfl, rowSet_self hR]; exact hW), hS, (lv_sub hl [1, 2, 3, 0] rfl)⟩ (fun k H locs ls hI ih => ?_)
  obtain ⟨hk, hW, hS, hl⟩ := hI
  have hRk : rowAt (rowSet w r rI cI n (itN (fun k Y => r_tu1 n form (X2.1 k) Y) k X)) r rI cI n (itN (fun k Y => r_tu1 n form (X2.1 k) Y) k X) := rowSet_at hR.ne (itN_le (fun _ _ h => r_tu1_le h) _ _ hR.2.2.1) hR.2.2.2
  have fo_r2_k : (rowSet w r rI cI n (itN (fun k Y => r_tu1 n form (X2.1 k) Y) k X)) r2 = some (.inr (0, [.ref rI2, .int (nI X2.2)])) := (rowSet_ne hn1 (wd_ne hR2.1 hR.2.1 (by simp))).trans hR2.1
  have fo_rI2_k : (rowSet w r rI cI n (itN (fun k Y => r_tu1 n form (X2.1 k) Y) k X)) rI2 = some (.inl (cI, n2, .inl X2.1)) := (rowSet_ne (wd_ne hR2.2.1 hR.1 (by simp)) hn2).trans hR2.2.1
  refine lv_iload_n hx hb dX2_tellUnits_2 rfl (lv_at hl 3 rfl) ?_
  refine lv_aload_n hx hb dX2_tellUnits_3 rfl (lv_at hl 0 rfl) ?_
  refine wd_get (ci := 0) (v := .int (nI X2.2)) (C := RX0) (T := TX0) (N := 2) hx hb hts (by decide +kernel) hown hK.1 hW fo_r2_k rfl 1 (by decide) (hts (.fieldLink RX2 48 "CharRows$Row" "count" "I") (by decide +kernel)) (fun _ h9 => h9) rfl dX2_tellUnits_4 ?_
  refine lv_icmp_ge (tgt := 81) hx hb dX2_tellUnits_7 (by decide) (fun c_7 => ?_) (fun c_7 => ?_)
  ·
    have c_7 : X2.2 ≤ k := (nI_leI (by omega) (by omega)).mp (show (nI X2.2 ≤ nI k) from c_7)
    refine wd_vret hx hb hr hlocks hW hS dX2_tellUnits_81 ?_
    show _ = _
    rw [r_tu, show min X2.2 n2 = k by omega]
  ·
    have c_7 : ¬ (X2.2 ≤ k) := fun q9 => absurd ((nI_leI (by omega) (by omega)).mpr q9) (show ¬ (nI X2.2 ≤ nI k) from c_7)
    refine lv_iload_n hx hb dX2_tellUnits_10 rfl (lv_at hl 3 rfl) ?_
    refine lv_aload_n hx hb dX2_tellUnits_11 rfl (lv_at hl 0 rfl) ?_
    refine wd_get (ci := 0) (v := .ref rI2) (C := RX0) (T := TX0) (N := 2) hx hb hts (by decide +kernel) hown hK.1 hW fo_r2_k rfl 0 (by decide) (hts (.fieldLink RX2 74 "CharRows$Row" "items" "[I") (by decide +kernel)) (fun _ h9 => h9) rfl dX2_tellUnits_12 ?_
    refine wd_alen hx hb hK.1 hW 0 fo_rI2_k rfl dX2_tellUnits_15 ?_
    refine lv_icmp_ge (tgt := 81) hx hb dX2_tellUnits_16 (by decide) (fun c_16 => ?_) (fun c_16 => ?_)
    ·
      have c_16 : n2 ≤ k := (nI_leI (by omega) (by omega)).mp (show (nI n2 ≤ nI k) from c_16)
      refine wd_vret hx hb hr hlocks hW hS dX2_tellUnits_81 ?_
      show _ = _
      rw [r_tu, show min X2.2 n2 = k by omega]
    ·
      have c_16 : ¬ (n2 ≤ k) := fun q9 => absurd ((nI_leI (by omega) (by omega)).mpr q9) (show ¬ (nI n2 ≤ nI k) from c_16)
      refine lv_aload_n hx hb dX2_tellUnits_19 rfl (lv_at hl 0 rfl) ?_
      refine wd_get (ci := 0) (v := .ref rI2) (C := RX0) (T := TX0) (N := 2) hx hb hts (by decide +kernel) hown hK.1 hW fo_r2_k rfl 0 (by decide) (hts (.fieldLink RX2 74 "CharRows$Row" "items" "[I") (by decide +kernel)) (fun _ h9 => h9) rfl dX2_tellUnits_20 ?_
      refine lv_iload_n hx hb dX2_tellUnits_23 rfl (lv_at hl 3 rfl) ?_
      refine wd_iald hx hb hK.1 hW 0 fo_rI2_k rfl (vp_in_nI (by omega) (by omega)) dX2_tellUnits_24 ?_
      refine wd_topE (y := X2.1 k) (by rw [nI_clamp (by omega)]) ?_
      refine lv_sipush (v := 256) hx hb dX2_tellUnits_25 (by decide) ?_
      refine lv_idiv hx hb dX2_tellUnits_28 (by decide) ?_
      refine lv_istore (lv' := [(4, .int ((X2.1 k) / 256)), (0, .ref r2), (1, .int form), (2, .ref r), (3, .int (nI k))]) hx hb dX2_tellUnits_29 hl (by decide) rfl (fun ls hl => ?_)
      refine lv_aload_n hx hb dX2_tellUnits_31 rfl (lv_at hl 1 rfl) ?_
      refine wd_get (ci := 0) (v := .ref rI2) (C := RX0) (T := TX0) (N := 2) hx hb hts (by decide +kernel) hown hK.1 hW fo_r2_k rfl 0 (by decide) (hts (.fieldLink RX2 74 "CharRows$Row" "items" "[I") (by decide +kernel)) (fun _ h9 => h9) rfl dX2_tellUnits_32 ?_
      refine lv_iload_n hx hb dX2_tellUnits_35 rfl (lv_at hl 4 rfl) ?_
      refine wd_iald hx hb hK.1 hW 0 fo_rI2_k rfl (vp_in_nI (by omega) (by omega)) dX2_tellUnits_36 ?_
      refine wd_topE (y := X2.1 k) (by rw [nI_clamp (by omega)]) ?_
      refine lv_sipush (v := 256) hx hb dX2_tellUnits_37 (by decide) ?_
      refine lv_irem hx hb dX2_tellUnits_40 (by decide) ?_
      refine lv_istore (lv' := [(5, .int ((X2.1 k) - (X2.1 k) / 256 * 256)), (4, .int ((X2.1 k) / 256)), (0, .ref r2), (1, .int form), (2, .ref r), (3, .int (nI k))]) hx hb dX2_tellUnits_41 hl (by decide) rfl (fun ls hl => ?_)
      refine lv_aload_n hx hb dX2_tellUnits_43 rfl (lv_at hl 4 rfl) ?_
      refine lv_iload_n hx hb dX2_tellUnits_44 rfl (lv_at hl 3 rfl) ?_
      refine lv_iconst (v := 1) hx hb dX2_tellUnits_45 (by decide) ?_
      refine lv_icmp_ne (tgt := 54) hx hb dX2_tellUnits_46 (by decide) (fun c_46 => ?_) (fun c_46 => ?_)
      ·
        refine lv_iload hx hb dX2_tellUnits_54 (lv_at hl 0 rfl) ?_
        refine wd_callVv (As := [.int ((X2.1 k) - (X2.1 k) / 256 * 256)]) (rest := []) (c2 := 0) (s2 := 0) ⟨hx, hb, hml, hown, hts⟩ (k_X0_add l D cI cT (rowSet w r rI cI n (itN (fun k Y => r_tu1 n form (X2.1 k) Y) k X)) H.size r rI n (itN (fun k Y => r_tu1 n form (X2.1 k) Y) k X) ((X2.1 k) - (X2.1 k) / 256 * 256) hRk) (cwV 1 hts gX2_tellUnits_X0_add rfl rfl rfl (by decide +kernel) ⟨Nat.le_of_ble_eq_true rfl, Nat.le_of_ble_eq_true rfl⟩) gK_ok hK hW (wd_recv (ci := 0) hK.1 hW rfl hRk.1) hS hA rfl hl.1 rfl (Nat.le_of_ble_eq_true rfl) dX2_tellUnits_56 ⟨Nat.le_of_ble_eq_true rfl, Nat.le_of_ble_eq_true rfl⟩ rfl rfl (fun w_56 H locs hp_56 hW hz hS => ?_)
        subst w_56
        rw [rowSet_twice] at hW
        have hR_56 : rowAt (rowSet w r rI cI n (r_add n ((X2.1 k) - (X2.1 k) / 256 * 256) (itN (fun k Y => r_tu1 n form (X2.1 k) Y) k X))) r rI cI n (r_add n ((X2.1 k) - (X2.1 k) / 256 * 256) (itN (fun k Y => r_tu1 n form (X2.1 k) Y) k X)) := rowSet_at hRk.ne (r_add_le hRk.2.2.1) hRk.2.2.2
        have fo_r2_56 : (rowSet w r rI cI n (r_add n ((X2.1 k) - (X2.1 k) / 256 * 256) (itN (fun k Y => r_tu1 n form (X2.1 k) Y) k X))) r2 = some (.inr (0, [.ref rI2, .int (nI X2.2)])) := (rowSet_ne hn1 (wd_ne hR2.1 hR.2.1 (by simp))).trans hR2.1
        have fo_rI2_56 : (rowSet w r rI cI n (r_add n ((X2.1 k) - (X2.1 k) / 256 * 256) (itN (fun k Y => r_tu1 n form (X2.1 k) Y) k X))) rI2 = some (.inl (cI, n2, .inl X2.1)) := (rowSet_ne (wd_ne hR2.2.1 hR.1 (by simp)) hn2).trans hR2.2.1
        refine lv_aload_n hx hb dX2_tellUnits_59 rfl (lv_at hl 4 rfl) ?_
        refine lv_iload_n hx hb dX2_tellUnits_60 rfl (lv_at hl 3 rfl) ?_
        refine lv_iconst (v := 1) hx hb dX2_tellUnits_61 (by decide) ?_
        refine lv_icmp_ne (tgt := 70) hx hb dX2_tellUnits_62 (by decide) (fun c_62 => ?_) (fun c_62 => ?_)
        ·
          refine lv_iload hx hb dX2_tellUnits_70 (lv_at hl 1 rfl) ?_
          refine wd_callVv (As := [.int ((X2.1 k) / 256)]) (rest := []) (c2 := 0) (s2 := 0) ⟨hx, hb, hml, hown, hts⟩ (k_X0_add l D cI cT (rowSet w r rI cI n (r_add n ((X2.1 k) - (X2.1 k) / 256 * 256) (itN (fun k Y => r_tu1 n form (X2.1 k) Y) k X))) H.size r rI n (r_add n ((X2.1 k) - (X2.1 k) / 256 * 256) (itN (fun k Y => r_tu1 n form (X2.1 k) Y) k X)) ((X2.1 k) / 256) hR_56) (cwV 1 hts gX2_tellUnits_X0_add rfl rfl rfl (by decide +kernel) ⟨Nat.le_of_ble_eq_true rfl, Nat.le_of_ble_eq_true rfl⟩) gK_ok hK hW (wd_recv (ci := 0) hK.1 hW rfl hR_56.1) hS hA rfl hl.1 rfl (Nat.le_of_ble_eq_true rfl) dX2_tellUnits_72 ⟨Nat.le_of_ble_eq_true rfl, Nat.le_of_ble_eq_true rfl⟩ rfl rfl (fun w_72 H locs hp_72 hW hz hS => ?_)
          subst w_72
          rw [rowSet_twice] at hW
          have hR_72 : rowAt (rowSet w r rI cI n (r_add n ((X2.1 k) / 256) (r_add n ((X2.1 k) - (X2.1 k) / 256 * 256) (itN (fun k Y => r_tu1 n form (X2.1 k) Y) k X)))) r rI cI n (r_add n ((X2.1 k) / 256) (r_add n ((X2.1 k) - (X2.1 k) / 256 * 256) (itN (fun k Y => r_tu1 n form (X2.1 k) Y) k X))) := rowSet_at hR_56.ne (r_add_le hR_56.2.2.1) hR_56.2.2.2
          have fo_r2_72 : (rowSet w r rI cI n (r_add n ((X2.1 k) / 256) (r_add n ((X2.1 k) - (X2.1 k) / 256 * 256) (itN (fun k Y => r_tu1 n form (X2.1 k) Y) k X)))) r2 = some (.inr (0, [.ref rI2, .int (nI X2.2)])) := (rowSet_ne hn1 (wd_ne hR2.1 hR.2.1 (by simp))).trans hR2.1
          have fo_rI2_72 : (rowSet w r rI cI n (r_add n ((X2.1 k) / 256) (r_add n ((X2.1 k) - (X2.1 k) / 256 * 256) (itN (fun k Y => r_tu1 n form (X2.1 k) Y) k X)))) rI2 = some (.inl (cI, n2, .inl X2.1)) := (rowSet_ne (wd_ne hR2.2.1 hR.1 (by simp)) hn2).trans hR2.2.1
          refine lv_iinc (v := nI (k + 1)) (lv' := [(3, .int (nI (k + 1))), (5, .int ((X2.1 k) - (X2.1 k) / 256 * 256)), (4, .int ((X2.1 k) / 256)), (0, .ref r2), (1, .int form), (2, .ref r)]) hx hb dX2_tellUnits_75 hl (k := 5) rfl (nI_add k 1) (by decide) rfl (fun ls hl => ?_)
          refine lv_goto (tgt := 2) hx hb dX2_tellUnits_78 (by decide) ?_
          exact ih (k + 1) H locs ls ⟨(by omega), (by rw [show itN (fun k Y => r_tu1 n form (X2.1 k) Y) (k + 1) X = r_add n ((X2.1 k) / 256) (r_add n ((X2.1 k) - (X2.1 k) / 256 * 256) (itN (fun k Y => r_tu1 n form (X2.1 k) Y) k X)) from by (show r_tu1 n form (X2.1 k) _ = _; rw [r_tu1, if_neg c_46, if_neg c_46])]; exact hW), hS, (lv_sub hl [3, 4, 5, 0] rfl)⟩ (by omega)
        ·
          exact absurd c_62 c_46
      ·
        refine lv_iload hx hb dX2_tellUnits_49 (lv_at hl 1 rfl) ?_
        refine lv_goto (tgt := 56) hx hb dX2_tellUnits_51 (by decide) ?_
        refine wd_callVv (As := [.int ((X2.1 k) / 256)]) (rest := []) (c2 := 0) (s2 := 0) ⟨hx, hb, hml, hown, hts⟩ (k_X0_add l D cI cT (rowSet w r rI cI n (itN (fun k Y => r_tu1 n form (X2.1 k) Y) k X)) H.size r rI n (itN (fun k Y => r_tu1 n form (X2.1 k) Y) k X) ((X2.1 k) / 256) hRk) (cwV 1 hts gX2_tellUnits_X0_add rfl rfl rfl (by decide +kernel) ⟨Nat.le_of_ble_eq_true rfl, Nat.le_of_ble_eq_true rfl⟩) gK_ok hK hW (wd_recv (ci := 0) hK.1 hW rfl hRk.1) hS hA rfl hl.1 rfl (Nat.le_of_ble_eq_true rfl) dX2_tellUnits_56 ⟨Nat.le_of_ble_eq_true rfl, Nat.le_of_ble_eq_true rfl⟩ rfl rfl (fun w_56 H locs hp_56 hW hz hS => ?_)
        subst w_56
        rw [rowSet_twice] at hW
        have hR_56 : rowAt (rowSet w r rI cI n (r_add n ((X2.1 k) / 256) (itN (fun k Y => r_tu1 n form (X2.1 k) Y) k X))) r rI cI n (r_add n ((X2.1 k) / 256) (itN (fun k Y => r_tu1 n form (X2.1 k) Y) k X)) := rowSet_at hRk.ne (r_add_le hRk.2.2.1) hRk.2.2.2
        have fo_r2_56 : (rowSet w r rI cI n (r_add n ((X2.1 k) / 256) (itN (fun k Y => r_tu1 n form (X2.1 k) Y) k X))) r2 = some (.inr (0, [.ref rI2, .int (nI X2.2)])) := (rowSet_ne hn1 (wd_ne hR2.1 hR.2.1 (by simp))).trans hR2.1
        have fo_rI2_56 : (rowSet w r rI cI n (r_add n ((X2.1 k) / 256) (itN (fun k Y => r_tu1 n form (X2.1 k) Y) k X))) rI2 = some (.inl (cI, n2, .inl X2.1)) := (rowSet_ne (wd_ne hR2.2.1 hR.1 (by simp)) hn2).trans hR2.2.1
        refine lv_aload_n hx hb dX2_tellUnits_59 rfl (lv_at hl 4 rfl) ?_
        refine lv_iload_n hx hb dX2_tellUnits_60 rfl (lv_at hl 3 rfl) ?_
        refine lv_iconst (v := 1) hx hb dX2_tellUnits_61 (by decide) ?_
        refine lv_icmp_ne (tgt := 70) hx hb dX2_tellUnits_62 (by decide) (fun c_62 => ?_) (fun c_62 => ?_)
        ·
          exact absurd c_46 c_62
        ·
          refine lv_iload hx hb dX2_tellUnits_65 (lv_at hl 0 rfl) ?_
          refine lv_goto (tgt := 72) hx hb dX2_tellUnits_67 (by decide) ?_
          refine wd_callVv (As := [.int ((X2.1 k) - (X2.1 k) / 256 * 256)]) (rest := []) (c2 := 0) (s2 := 0) ⟨hx, hb, hml, hown, hts⟩ (k_X0_add l D cI cT (rowSet w r rI cI n (r_add n ((X2.1 k) / 256) (itN (fun k Y => r_tu1 n form (X2.1 k) Y) k X))) H.size r rI n (r_add n ((X2.1 k) / 256) (itN (fun k Y => r_tu1 n form (X2.1 k) Y) k X)) ((X2.1 k) - (X2.1 k) / 256 * 256) hR_56) (cwV 1 hts gX2_tellUnits_X0_add rfl rfl rfl (by decide +kernel) ⟨Nat.le_of_ble_eq_true rfl, Nat.le_of_ble_eq_true rfl⟩) gK_ok hK hW (wd_recv (ci := 0) hK.1 hW rfl hR_56.1) hS hA rfl hl.1 rfl (Nat.le_of_ble_eq_true rfl) dX2_tellUnits_72 ⟨Nat.le_of_ble_eq_true rfl, Nat.le_of_ble_eq_true rfl⟩ rfl rfl (fun w_72 H locs hp_72 hW hz hS => ?_)
          subst w_72
          rw [rowSet_twice] at hW
          have hR_72 : rowAt (rowSet w r rI cI n (r_add n ((X2.1 k) - (X2.1 k) / 256 * 256) (r_add n ((X2.1 k) / 256) (itN (fun k Y => r_tu1 n form (X2.1 k) Y) k X)))) r rI cI n (r_add n ((X2.1 k) - (X2.1 k) / 256 * 256) (r_add n ((X2.1 k) / 256) (itN (fun k Y => r_tu1 n form (X2.1 k) Y) k X))) := rowSet_at hR_56.ne (r_add_le hR_56.2.2.1) hR_56.2.2.2
          have fo_r2_72 : (rowSet w r rI cI n (r_add n ((X2.1 k) - (X2.1 k) / 256 * 256) (r_add n ((X2.1 k) / 256) (itN (fun k Y => r_tu1 n form (X2.1 k) Y) k X)))) r2 = some (.inr (0, [.ref rI2, .int (nI X2.2)])) := (rowSet_ne hn1 (wd_ne hR2.1 hR.2.1 (by simp))).trans hR2.1
          have fo_rI2_72 : (rowSet w r rI cI n (r_add n ((X2.1 k) - (X2.1 k) / 256 * 256) (r_add n ((X2.1 k) / 256) (itN (fun k Y => r_tu1 n form (X2.1 k) Y) k X)))) rI2 = some (.inl (cI, n2, .inl X2.1)) := (rowSet_ne (wd_ne hR2.2.1 hR.1 (by simp)) hn2).trans hR2.2.1
          refine lv_iinc (v := nI (k + 1)) (lv' := [(3, .int (nI (k + 1))), (5, .int ((X2.1 k) - (X2.1 k) / 256 * 256)), (4, .int ((X2.1 k) / 256)), (0, .ref r2), (1, .int form), (2, .ref r)]) hx hb dX2_tellUnits_75 hl (k := 5) rfl (nI_add k 1) (by decide) rfl (fun ls hl => ?_)
          refine lv_goto (tgt := 2) hx hb dX2_tellUnits_78 (by decide) ?_
          exact ih (k + 1) H locs ls ⟨(by omega), (by rw [show itN (fun k Y => r_tu1 n form (X2.1 k) Y) (k + 1) X = r_add n ((X2.1 k) - (X2.1 k) / 256 * 256) (r_add n ((X2.1 k) / 256) (itN (fun k Y => r_tu1 n form (X2.1 k) Y) k X)) from by (show r_tu1 n form (X2.1 k) _ = _; rw [r_tu1, if_pos (by simpa using c_46), if_pos (by simpa using c_46)])]; exact hW), hS, (lv_sub hl [3, 4, 5, 0] rfl)⟩ (by omega)
set_option maxHeartbeats 4000000 in
set_option maxRecDepth 100000 in
theorem k_X2_tellPoints (l : Launch) (D : va_G) (cI cT : ClassId) (w : Wd) (sz : Nat) (r2 : Nat) (rI2 : Nat) (n2 : Nat) (X2 : Rw) (form : Int32) (r : Nat) (rI : Nat) (n : Nat) (X : Rw) (hR2 : rowAt w r2 rI2 cI n2 X2) (hR : rowAt w r rI cI n X) (hn1 : r2 ≠ r) (hn2 : rI2 ≠ rI) : wd_Mv l D vwCl (gK D cI cT) yX2_tellPoints wsX2_tellPoints (wd_rm 2 0 0) [.ref r2, .int form, .ref r] w sz (fun w' => w' = rowSet w r rI cI n (r_tp n2 n form X2 X)) := by
  refine wd_met (cc := cX2_tellPoints) (maxL := 4) (ret := none) (by decide) rfl (Nat.le_of_ble_eq_true rfl) ?_
  intro pg ev sg mi bl mt cde ls C0 hsz hK hW hl
  obtain ⟨hx, hb, hr, hml, hown, hts, hlocks, hnm⟩ := C0
  subst hsz
  have hown : sg.vm.findClass RX2 = some mi.cls := hown
  have hS : va_S (wd_A w sg.heap.size) sg.heap sg.heap [] := va_S.rf
  have hA : ∀ q, sg.heap.size ≤ q → wd_A w sg.heap.size q := fun q h => Or.inr h
  have hl : lv_has ls 4 [(0, .ref r2), (1, .int form), (2, .ref r)] := hl
  have hX1 := hR.2.2.1
  have hX2 := hR.2.2.2
  have hY1 := hR2.2.2.1
  have hY2 := hR2.2.2.2
  refine lv_iconst (v := 0) hx hb dX2_tellPoints_0 (by decide) ?_
  refine lv_istore_n (lv' := [(3, .int 0), (0, .ref r2), (1, .int form), (2, .ref r)]) hx hb dX2_tellPoints_1 rfl hl (by decide) rfl (fun ls hl => ?_)
  refine wd_loop1 (fun (k : Nat) (H : Heap) (locs : List Loc) (ls : Array Slot) => (k ≤ min X2.2 n2) ∧ wd_P D vwCl (wd_A w sg.heap.size) (rowSet w r rI cI n (itN (fun k Y => if form = 3 then r_add n (X2.1 k) Y else r_mb n (X2.1 k) Y) k X)) H ∧ va_S (wd_A w sg.heap.size) sg.heap H locs ∧ lv_has ls 4 [(0, .ref r2), (1, .int form), (2, .ref r), (3, .int (nI k))]) (fun (k : Nat) => n2 - k) 0 ⟨Nat.zero_le _, (by rw [show itN (fun k Y => if form = 3 then r_add n (X2.1 k) Y else r_mb n (X2.1 k) Y) 0 X = X from rfl, rowSet_self hR]; exact hW), hS, (lv_sub hl [1, 2, 3, 0] rfl)⟩ (fun k H locs ls hI ih => ?_)
  obtain ⟨hk, hW, hS, hl⟩ := hI
  have hRk : rowAt (rowSet w r rI cI n (itN (fun k Y => if form = 3 then r_add n (X2.1 k) Y else r_mb n (X2.1 k) Y) k X)) r rI cI n (itN (fun k Y => if form = 3 then r_add n (X2.1 k) Y else r_mb n (X2.1 k) Y) k X) := rowSet_at hR.ne (itN_le (fun _ _ h => (by split; exact r_add_le h; exact r_mb_le h)) _ _ hR.2.2.1) hR.2.2.2
  have fo_r2_k : (rowSet w r rI cI n (itN (fun k Y => if form = 3 then r_add n (X2.1 k) Y else r_mb n (X2.1 k) Y) k X)) r2 = some (.inr (0, [.ref rI2, .int (nI X2.2)])) := (rowSet_ne hn1 (wd_ne hR2.1 hR.2.1 (by simp))).trans hR2.1
  have fo_rI2_k : (rowSet w r rI cI n (itN (fun k Y => if form = 3 then r_add n (X2.1 k) Y else r_mb n (X2.1 k) Y) k X)) rI2 = some (.inl (cI, n2, .inl X2.1)) := (rowSet_ne (wd_ne hR2.2.1 hR.1 (by simp)) hn2).trans hR2.2.1
  refine lv_iload_n hx hb dX2_tellPoints_2 rfl (lv_at hl 3 rfl) ?_
  refine lv_aload_n hx hb dX2_tellPoints_3 rfl (lv_at hl 0 rfl) ?_
  refine wd_get (ci := 0) (v := .int (nI X2.2)) (C := RX0) (T := TX0) (N := 2) hx hb hts (by decide +kernel) hown hK.1 hW fo_r2_k rfl 1 (by decide) (hts (.fieldLink RX2 48 "CharRows$Row" "count" "I") (by decide +kernel)) (fun _ h9 => h9) rfl dX2_tellPoints_4 ?_
  refine lv_icmp_ge (tgt := 53) hx hb dX2_tellPoints_7 (by decide) (fun c_7 => ?_) (fun c_7 => ?_)
  ·
    have c_7 : X2.2 ≤ k := (nI_leI (by omega) (by omega)).mp (show (nI X2.2 ≤ nI k) from c_7)
    refine wd_vret hx hb hr hlocks hW hS dX2_tellPoints_53 ?_
    show _ = _
    rw [r_tp, show min X2.2 n2 = k by omega]
  ·
    have c_7 : ¬ (X2.2 ≤ k) := fun q9 => absurd ((nI_leI (by omega) (by omega)).mpr q9) (show ¬ (nI X2.2 ≤ nI k) from c_7)
    refine lv_iload_n hx hb dX2_tellPoints_10 rfl (lv_at hl 3 rfl) ?_
    refine lv_aload_n hx hb dX2_tellPoints_11 rfl (lv_at hl 0 rfl) ?_
    refine wd_get (ci := 0) (v := .ref rI2) (C := RX0) (T := TX0) (N := 2) hx hb hts (by decide +kernel) hown hK.1 hW fo_r2_k rfl 0 (by decide) (hts (.fieldLink RX2 74 "CharRows$Row" "items" "[I") (by decide +kernel)) (fun _ h9 => h9) rfl dX2_tellPoints_12 ?_
    refine wd_alen hx hb hK.1 hW 0 fo_rI2_k rfl dX2_tellPoints_15 ?_
    refine lv_icmp_ge (tgt := 53) hx hb dX2_tellPoints_16 (by decide) (fun c_16 => ?_) (fun c_16 => ?_)
    ·
      have c_16 : n2 ≤ k := (nI_leI (by omega) (by omega)).mp (show (nI n2 ≤ nI k) from c_16)
      refine wd_vret hx hb hr hlocks hW hS dX2_tellPoints_53 ?_
      show _ = _
      rw [r_tp, show min X2.2 n2 = k by omega]
    ·
      have c_16 : ¬ (n2 ≤ k) := fun q9 => absurd ((nI_leI (by omega) (by omega)).mpr q9) (show ¬ (nI n2 ≤ nI k) from c_16)
      refine lv_iload_n hx hb dX2_tellPoints_19 rfl (lv_at hl 1 rfl) ?_
      refine lv_iconst (v := 3) hx hb dX2_tellPoints_20 (by decide) ?_
      refine lv_icmp_ne (tgt := 37) hx hb dX2_tellPoints_21 (by decide) (fun c_21 => ?_) (fun c_21 => ?_)
      ·
        refine lv_aload_n hx hb dX2_tellPoints_37 rfl (lv_at hl 0 rfl) ?_
        refine wd_get (ci := 0) (v := .ref rI2) (C := RX0) (T := TX0) (N := 2) hx hb hts (by decide +kernel) hown hK.1 hW fo_r2_k rfl 0 (by decide) (hts (.fieldLink RX2 74 "CharRows$Row" "items" "[I") (by decide +kernel)) (fun _ h9 => h9) rfl dX2_tellPoints_38 ?_
        refine lv_iload_n hx hb dX2_tellPoints_41 rfl (lv_at hl 3 rfl) ?_
        refine wd_iald hx hb hK.1 hW 0 fo_rI2_k rfl (vp_in_nI (by omega) (by omega)) dX2_tellPoints_42 ?_
        refine wd_topE (y := X2.1 k) (by rw [nI_clamp (by omega)]) ?_
        refine lv_aload_n hx hb dX2_tellPoints_43 rfl (lv_at hl 2 rfl) ?_
        refine wd_callSv (As := [.int (X2.1 k), .ref r]) (rest := []) (c2 := 0) (s2 := 0) ⟨hx, hb, hml, hown, hts⟩ (k_X2_tellInManyBytes l D cI cT (rowSet w r rI cI n (itN (fun k Y => if form = 3 then r_add n (X2.1 k) Y else r_mb n (X2.1 k) Y) k X)) H.size r rI n (itN (fun k Y => if form = 3 then r_add n (X2.1 k) Y else r_mb n (X2.1 k) Y) k X) (X2.1 k) hRk) (va_cwS 2 hts gX2_tellPoints_X2_tellInManyBytes rfl rfl rfl (by decide +kernel) ⟨Nat.le_of_ble_eq_true rfl, Nat.le_of_ble_eq_true rfl⟩) gK_ok hK hW hS hA rfl hl.1 rfl (Nat.le_of_ble_eq_true rfl) dX2_tellPoints_44 ⟨Nat.le_of_ble_eq_true rfl, Nat.le_of_ble_eq_true rfl⟩ rfl rfl (fun w_44 H locs hp_44 hW hz hS => ?_)
        subst w_44
        rw [rowSet_twice] at hW
        have hR_44 : rowAt (rowSet w r rI cI n (r_mb n (X2.1 k) (itN (fun k Y => if form = 3 then r_add n (X2.1 k) Y else r_mb n (X2.1 k) Y) k X))) r rI cI n (r_mb n (X2.1 k) (itN (fun k Y => if form = 3 then r_add n (X2.1 k) Y else r_mb n (X2.1 k) Y) k X)) := rowSet_at hRk.ne (r_mb_le hRk.2.2.1) hRk.2.2.2
        have fo_r2_44 : (rowSet w r rI cI n (r_mb n (X2.1 k) (itN (fun k Y => if form = 3 then r_add n (X2.1 k) Y else r_mb n (X2.1 k) Y) k X))) r2 = some (.inr (0, [.ref rI2, .int (nI X2.2)])) := (rowSet_ne hn1 (wd_ne hR2.1 hR.2.1 (by simp))).trans hR2.1
        have fo_rI2_44 : (rowSet w r rI cI n (r_mb n (X2.1 k) (itN (fun k Y => if form = 3 then r_add n (X2.1 k) Y else r_mb n (X2.1 k) Y) k X))) rI2 = some (.inl (cI, n2, .inl X2.1)) := (rowSet_ne (wd_ne hR2.2.1 hR.1 (by simp)) hn2).trans hR2.2.1
        refine lv_iinc (v := nI (k + 1)) (lv' := [(3, .int (nI (k + 1))), (0, .ref r2), (1, .int form), (2, .ref r)]) hx hb dX2_tellPoints_47 hl (k := 3) rfl (nI_add k 1) (by decide) rfl (fun ls hl => ?_)
        refine lv_goto (tgt := 2) hx hb dX2_tellPoints_50 (by decide) ?_
        exact ih (k + 1) H locs ls ⟨(by omega), (by rw [show itN (fun k Y => if form = 3 then r_add n (X2.1 k) Y else r_mb n (X2.1 k) Y) (k + 1) X = r_mb n (X2.1 k) (itN (fun k Y => if form = 3 then r_add n (X2.1 k) Y else r_mb n (X2.1 k) Y) k X) from by (show (if form = 3 then _ else _) = _; rw [if_neg c_21])]; exact hW), hS, (lv_sub hl [1, 2, 3, 0] rfl)⟩ (by omega)
      ·
        refine lv_aload_n hx hb dX2_tellPoints_24 rfl (lv_at hl 2 rfl) ?_
        refine lv_aload_n hx hb dX2_tellPoints_25 rfl (lv_at hl 0 rfl) ?_
        refine wd_get (ci := 0) (v := .ref rI2) (C := RX0) (T := TX0) (N := 2) hx hb hts (by decide +kernel) hown hK.1 hW fo_r2_k rfl 0 (by decide) (hts (.fieldLink RX2 74 "CharRows$Row" "items" "[I") (by decide +kernel)) (fun _ h9 => h9) rfl dX2_tellPoints_26 ?_
        refine lv_iload_n hx hb dX2_tellPoints_29 rfl (lv_at hl 3 rfl) ?_
        refine wd_iald hx hb hK.1 hW 0 fo_rI2_k rfl (vp_in_nI (by omega) (by omega)) dX2_tellPoints_30 ?_
        refine wd_topE (y := X2.1 k) (by rw [nI_clamp (by omega)]) ?_
        refine wd_callVv (As := [.int (X2.1 k)]) (rest := []) (c2 := 0) (s2 := 0) ⟨hx, hb, hml, hown, hts⟩ (k_X0_add l D cI cT (rowSet w r rI cI n (itN (fun k Y => if form = 3 then r_add n (X2.1 k) Y else r_mb n (X2.1 k) Y) k X)) H.size r rI n (itN (fun k Y => if form = 3 then r_add n (X2.1 k) Y else r_mb n (X2.1 k) Y) k X) (X2.1 k) hRk) (cwV 1 hts gX2_tellPoints_X0_add rfl rfl rfl (by decide +kernel) ⟨Nat.le_of_ble_eq_true rfl, Nat.le_of_ble_eq_true rfl⟩) gK_ok hK hW (wd_recv (ci := 0) hK.1 hW rfl hRk.1) hS hA rfl hl.1 rfl (Nat.le_of_ble_eq_true rfl) dX2_tellPoints_31 ⟨Nat.le_of_ble_eq_true rfl, Nat.le_of_ble_eq_true rfl⟩ rfl rfl (fun w_31 H locs hp_31 hW hz hS => ?_)
        subst w_31
        rw [rowSet_twice] at hW
        have hR_31 : rowAt (rowSet w r rI cI n (r_add n (X2.1 k) (itN (fun k Y => if form = 3 then r_add n (X2.1 k) Y else r_mb n (X2.1 k) Y) k X))) r rI cI n (r_add n (X2.1 k) (itN (fun k Y => if form = 3 then r_add n (X2.1 k) Y else r_mb n (X2.1 k) Y) k X)) := rowSet_at hRk.ne (r_add_le hRk.2.2.1) hRk.2.2.2
        have fo_r2_31 : (rowSet w r rI cI n (r_add n (X2.1 k) (itN (fun k Y => if form = 3 then r_add n (X2.1 k) Y else r_mb n (X2.1 k) Y) k X))) r2 = some (.inr (0, [.ref rI2, .int (nI X2.2)])) := (rowSet_ne hn1 (wd_ne hR2.1 hR.2.1 (by simp))).trans hR2.1
        have fo_rI2_31 : (rowSet w r rI cI n (r_add n (X2.1 k) (itN (fun k Y => if form = 3 then r_add n (X2.1 k) Y else r_mb n (X2.1 k) Y) k X))) rI2 = some (.inl (cI, n2, .inl X2.1)) := (rowSet_ne (wd_ne hR2.2.1 hR.1 (by simp)) hn2).trans hR2.2.1
        refine lv_goto (tgt := 47) hx hb dX2_tellPoints_34 (by decide) ?_
        refine lv_iinc (v := nI (k + 1)) (lv' := [(3, .int (nI (k + 1))), (0, .ref r2), (1, .int form), (2, .ref r)]) hx hb dX2_tellPoints_47 hl (k := 3) rfl (nI_add k 1) (by decide) rfl (fun ls hl => ?_)
        refine lv_goto (tgt := 2) hx hb dX2_tellPoints_50 (by decide) ?_
        exact ih (k + 1) H locs ls ⟨(by omega), (by rw [show itN (fun k Y => if form = 3 then r_add n (X2.1 k) Y else r_mb n (X2.1 k) Y) (k + 1) X = r_add n (X2.1 k) (itN (fun k Y => if form = 3 then r_add n (X2.1 k) Y else r_mb n (X2.1 k) Y) k X) from by (show (if form = 3 then _ else _) = _; rw [if_pos (by simpa using c_21)])]; exact hW), hS, (lv_sub hl [1, 2, 3, 0] rfl)⟩ (by omega)
