set_option maxHeartbeats 4000000 in
set_option maxRecDepth 100000 in
theorem k_X3_within (l : Launch) (D : va_G) (cI cT : ClassId) (w : Wd) (sz : Nat) (v : Int32) (lo : Int32) (hi : Int32) : wd_Mi l D vwCl (gK D cI cT) yX3_within wsX3_within (wd_rm 0 0 0) [.int v, .int lo, .int hi] w sz (fun r w' => r = j_b (lo ≤ v ∧ v ≤ hi) ∧ w' = w) := by
  refine wd_met (cc := cX3_within) (maxL := 3) (ret := (some .boolean)) (by decide) rfl (Nat.le_of_ble_eq_true rfl) ?_
  intro pg ev sg mi bl mt cde ls C0 hsz hK hW hl
  obtain ⟨hx, hb, hr, hml, hown, hts, hlocks, hnm⟩ := C0
  subst hsz
  have hown : sg.vm.findClass RX3 = some mi.cls := hown
  have hS : va_S (wd_A w sg.heap.size) sg.heap sg.heap [] := va_S.rf
  have hA : ∀ q, sg.heap.size ≤ q → wd_A w sg.heap.size q := fun q h => Or.inr h
  have hl : lv_has ls 3 [(0, .int v), (1, .int lo), (2, .int hi)] := hl
  refine lv_iload_n hx hb dX3_within_0 rfl (lv_at hl 0 rfl) ?_
  refine lv_iload_n hx hb dX3_within_1 rfl (lv_at hl 1 rfl) ?_
  refine lv_icmp_lt (tgt := 14) hx hb dX3_within_2 (by decide) (fun c_2 => ?_) (fun c_2 => ?_)
  ·
    refine lv_iconst (v := 0) hx hb dX3_within_14 (by decide) ?_
    refine wd_zret hx hb hr hlocks (Or.inl rfl) hW hS dX3_within_15 ?_
    exact ⟨by first | (simp [j_b, c_2]; done) | (simp only [j_b, i_le]; simp [c_2]; done) | (exfalso; simp_all; done) | (simp only [j_b, i_le]; simp_all), rfl⟩
  ·
    refine lv_iload_n hx hb dX3_within_5 rfl (lv_at hl 0 rfl) ?_
    refine lv_iload_n hx hb dX3_within_6 rfl (lv_at hl 2 rfl) ?_
    refine lv_icmp_gt (tgt := 14) hx hb dX3_within_7 (by decide) (fun c_7 => ?_) (fun c_7 => ?_)
    ·
      refine lv_iconst (v := 0) hx hb dX3_within_14 (by decide) ?_
      refine wd_zret hx hb hr hlocks (Or.inl rfl) hW hS dX3_within_15 ?_
      exact ⟨by first | (simp [j_b, c_2, c_7]; done) | (simp only [j_b, i_le]; simp [c_2, c_7]; done) | (exfalso; simp_all; done) | (simp only [j_b, i_le]; simp_all), rfl⟩
    ·
      refine lv_iconst (v := 1) hx hb dX3_within_10 (by decide) ?_
      refine lv_goto (tgt := 15) hx hb dX3_within_11 (by decide) ?_
      refine wd_zret hx hb hr hlocks (Or.inr rfl) hW hS dX3_within_15 ?_
      exact ⟨by first | (simp [j_b, c_2, c_7]; done) | (simp only [j_b, i_le]; simp [c_2, c_7]; done) | (exfalso; simp_all; done) | (simp only [j_b, i_le]; simp_all), rfl⟩
set_option maxHeartbeats 4000000 in
set_option maxRecDepth 100000 in
theorem k_X3_isText (l : Launch) (D : va_G) (cI cT : ClassId) (w : Wd) (sz : Nat) (t : Int32) : wd_Mi l D vwCl (gK D cI cT) yX3_isText wsX3_isText (wd_rm 1 0 0) [.int t] w sz (fun r w' => r = j_b (¬ j_noText t) ∧ w' = w) := by
  refine wd_met (cc := cX3_isText) (maxL := 1) (ret := (some .boolean)) (by decide) rfl (Nat.le_of_ble_eq_true rfl) ?_
  intro pg ev sg mi bl mt cde ls C0 hsz hK hW hl
  obtain ⟨hx, hb, hr, hml, hown, hts, hlocks, hnm⟩ := C0
  subst hsz
  have hown : sg.vm.findClass RX3 = some mi.cls := hown
  have hS : va_S (wd_A w sg.heap.size) sg.heap sg.heap [] := va_S.rf
  have hA : ∀ q, sg.heap.size ≤ q → wd_A w sg.heap.size q := fun q h => Or.inr h
  have hl : lv_has ls 1 [(0, .int t)] := hl
  refine lv_iload_n hx hb dX3_isText_0 rfl (lv_at hl 0 rfl) ?_
  refine lv_iconst (v := 0) hx hb dX3_isText_1 (by decide) ?_
  refine lv_bipush (v := 9) hx hb dX3_isText_2 (by decide) ?_
  refine wd_callSi (As := [.int t, .int 0, .int 9]) (rest := []) (c2 := 0) (s2 := 0) ⟨hx, hb, hml, hown, hts⟩ (k_X3_within l D cI cT w sg.heap.size t 0 9 ) (va_cwS 3 hts gX3_isText_X3_within rfl rfl rfl (by decide +kernel) ⟨Nat.le_of_ble_eq_true rfl, Nat.le_of_ble_eq_true rfl⟩) gK_ok hK hW hS hA rfl hl.1 rfl (Nat.le_of_ble_eq_true rfl) dX3_isText_4 ⟨Nat.le_of_ble_eq_true rfl, Nat.le_of_ble_eq_true rfl⟩ rfl rfl (fun r_4 w_4 H locs hp_4 hW hz hS => ?_)
  obtain ⟨q_r, q_w⟩ := hp_4
  subst r_4
  subst w_4
  refine wd_zret hx hb hr hlocks (j_b01 _) hW hS dX3_isText_7 ?_
  exact ⟨j_bc' (w_text t), rfl⟩
set_option maxHeartbeats 4000000 in
set_option maxRecDepth 100000 in
theorem k_X3_isPoint (l : Launch) (D : va_G) (cI cT : ClassId) (w : Wd) (sz : Nat) (p : Int32) : wd_Mi l D vwCl (gK D cI cT) yX3_isPoint wsX3_isPoint (wd_rm 1 0 0) [.int p] w sz (fun r w' => r = j_b (¬ j_noPoint p) ∧ w' = w) := by
  refine wd_met (cc := cX3_isPoint) (maxL := 1) (ret := (some .boolean)) (by decide) rfl (Nat.le_of_ble_eq_true rfl) ?_
  intro pg ev sg mi bl mt cde ls C0 hsz hK hW hl
  obtain ⟨hx, hb, hr, hml, hown, hts, hlocks, hnm⟩ := C0
  subst hsz
  have hown : sg.vm.findClass RX3 = some mi.cls := hown
  have hS : va_S (wd_A w sg.heap.size) sg.heap sg.heap [] := va_S.rf
  have hA : ∀ q, sg.heap.size ≤ q → wd_A w sg.heap.size q := fun q h => Or.inr h
  have hl : lv_has ls 1 [(0, .int p)] := hl
  refine lv_iload_n hx hb dX3_isPoint_0 rfl (lv_at hl 0 rfl) ?_
  refine lv_iconst (v := 0) hx hb dX3_isPoint_1 (by decide) ?_
  refine lv_ldc (v := 1114111) hx hb hown (hts (.constant RX3 48 1114111) (by decide +kernel)) dX3_isPoint_2 ?_
  refine wd_callSi (As := [.int p, .int 0, .int 1114111]) (rest := []) (c2 := 0) (s2 := 0) ⟨hx, hb, hml, hown, hts⟩ (k_X3_within l D cI cT w sg.heap.size p 0 1114111 ) (va_cwS 3 hts gX3_isPoint_X3_within rfl rfl rfl (by decide +kernel) ⟨Nat.le_of_ble_eq_true rfl, Nat.le_of_ble_eq_true rfl⟩) gK_ok hK hW hS hA rfl hl.1 rfl (Nat.le_of_ble_eq_true rfl) dX3_isPoint_4 ⟨Nat.le_of_ble_eq_true rfl, Nat.le_of_ble_eq_true rfl⟩ rfl rfl (fun r_4 w_4 H locs hp_4 hW hz hS => ?_)
  obtain ⟨q_r, q_w⟩ := hp_4
  subst r_4
  subst w_4
  refine wd_zret hx hb hr hlocks (j_b01 _) hW hS dX3_isPoint_7 ?_
  exact ⟨j_bc' (w_point p), rfl⟩
set_option maxHeartbeats 4000000 in
set_option maxRecDepth 100000 in
theorem k_X3_isHigh (l : Launch) (D : va_G) (cI cT : ClassId) (w : Wd) (sz : Nat) (u : Int32) : wd_Mi l D vwCl (gK D cI cT) yX3_isHigh wsX3_isHigh (wd_rm 1 0 0) [.int u] w sz (fun r w' => r = j_b (j_high u) ∧ w' = w) := by
  refine wd_met (cc := cX3_isHigh) (maxL := 1) (ret := (some .boolean)) (by decide) rfl (Nat.le_of_ble_eq_true rfl) ?_
  intro pg ev sg mi bl mt cde ls C0 hsz hK hW hl
  obtain ⟨hx, hb, hr, hml, hown, hts, hlocks, hnm⟩ := C0
  subst hsz
  have hown : sg.vm.findClass RX3 = some mi.cls := hown
  have hS : va_S (wd_A w sg.heap.size) sg.heap sg.heap [] := va_S.rf
  have hA : ∀ q, sg.heap.size ≤ q → wd_A w sg.heap.size q := fun q h => Or.inr h
  have hl : lv_has ls 1 [(0, .int u)] := hl
  refine lv_iload_n hx hb dX3_isHigh_0 rfl (lv_at hl 0 rfl) ?_
  refine lv_ldc (v := 55296) hx hb hown (hts (.constant RX3 49 55296) (by decide +kernel)) dX3_isHigh_1 ?_
  refine lv_ldc (v := 56319) hx hb hown (hts (.constant RX3 50 56319) (by decide +kernel)) dX3_isHigh_3 ?_
  refine wd_callSi (As := [.int u, .int 55296, .int 56319]) (rest := []) (c2 := 0) (s2 := 0) ⟨hx, hb, hml, hown, hts⟩ (k_X3_within l D cI cT w sg.heap.size u 55296 56319 ) (va_cwS 3 hts gX3_isHigh_X3_within rfl rfl rfl (by decide +kernel) ⟨Nat.le_of_ble_eq_true rfl, Nat.le_of_ble_eq_true rfl⟩) gK_ok hK hW hS hA rfl hl.1 rfl (Nat.le_of_ble_eq_true rfl) dX3_isHigh_5 ⟨Nat.le_of_ble_eq_true rfl, Nat.le_of_ble_eq_true rfl⟩ rfl rfl (fun r_5 w_5 H locs hp_5 hW hz hS => ?_)
  obtain ⟨q_r, q_w⟩ := hp_5
  subst r_5
  subst w_5
  refine wd_zret hx hb hr hlocks (j_b01 _) hW hS dX3_isHigh_8 ?_
  exact ⟨j_bc' (w_high u), rfl⟩
set_option maxHeartbeats 4000000 in
set_option maxRecDepth 100000 in
theorem k_X3_isLow (l : Launch) (D : va_G) (cI cT : ClassId) (w : Wd) (sz : Nat) (u : Int32) : wd_Mi l D vwCl (gK D cI cT) yX3_isLow wsX3_isLow (wd_rm 1 0 0) [.int u] w sz (fun r w' => r = j_b (j_low u) ∧ w' = w) := by
  refine wd_met (cc := cX3_isLow) (maxL := 1) (ret := (some .boolean)) (by decide) rfl (Nat.le_of_ble_eq_true rfl) ?_
  intro pg ev sg mi bl mt cde ls C0 hsz hK hW hl
  obtain ⟨hx, hb, hr, hml, hown, hts, hlocks, hnm⟩ := C0
  subst hsz
  have hown : sg.vm.findClass RX3 = some mi.cls := hown
  have hS : va_S (wd_A w sg.heap.size) sg.heap sg.heap [] := va_S.rf
  have hA : ∀ q, sg.heap.size ≤ q → wd_A w sg.heap.size q := fun q h => Or.inr h
  have hl : lv_has ls 1 [(0, .int u)] := hl
  refine lv_iload_n hx hb dX3_isLow_0 rfl (lv_at hl 0 rfl) ?_
  refine lv_ldc (v := 56320) hx hb hown (hts (.constant RX3 51 56320) (by decide +kernel)) dX3_isLow_1 ?_
  refine lv_ldc (v := 57343) hx hb hown (hts (.constant RX3 52 57343) (by decide +kernel)) dX3_isLow_3 ?_
  refine wd_callSi (As := [.int u, .int 56320, .int 57343]) (rest := []) (c2 := 0) (s2 := 0) ⟨hx, hb, hml, hown, hts⟩ (k_X3_within l D cI cT w sg.heap.size u 56320 57343 ) (va_cwS 3 hts gX3_isLow_X3_within rfl rfl rfl (by decide +kernel) ⟨Nat.le_of_ble_eq_true rfl, Nat.le_of_ble_eq_true rfl⟩) gK_ok hK hW hS hA rfl hl.1 rfl (Nat.le_of_ble_eq_true rfl) dX3_isLow_5 ⟨Nat.le_of_ble_eq_true rfl, Nat.le_of_ble_eq_true rfl⟩ rfl rfl (fun r_5 w_5 H locs hp_5 hW hz hS => ?_)
  obtain ⟨q_r, q_w⟩ := hp_5
  subst r_5
  subst w_5
  refine wd_zret hx hb hr hlocks (j_b01 _) hW hS dX3_isLow_8 ?_
  exact ⟨rfl, rfl⟩
set_option maxHeartbeats 4000000 in
set_option maxRecDepth 100000 in
theorem k_X3_no (l : Launch) (D : va_G) (cI cT : ClassId) (w : Wd) (sz : Nat) (m : Nat) (A : Nat → Nat) (fT : Nat → Int32) (fK : Nat → Int32) (fS : Nat → Int32) (fM : Nat → Int32) (fI : Nat → Int32) (kc : Nat) (cd : Int32) (pl : Int32) (XD : Rw) (XP : Rw) (XU : Rw) (XO : Rw) (XB : Rw) (v : Int32) (hR : rW cI m A fT fK fS fM fI kc cd pl XD XP XU XO XB w) : wd_Mi l D vwCl (gK D cI cT) yX3_no wsX3_no (wd_rm 0 0 0) [.ref m, .int v] w sz (fun q w' => q = 0 ∧ rW cI m A fT fK fS fM fI kc v pl XD XP XU XO XB w') := by
  refine wd_met (cc := cX3_no) (maxL := 2) (ret := (some .int)) (by decide) rfl (Nat.le_of_ble_eq_true rfl) ?_
  intro pg ev sg mi bl mt cde ls C0 hsz hK hW hl
  obtain ⟨hx, hb, hr, hml, hown, hts, hlocks, hnm⟩ := C0
  subst hsz
  have hown : sg.vm.findClass RX3 = some mi.cls := hown
  have hS : va_S (wd_A w sg.heap.size) sg.heap sg.heap [] := va_S.rf
  have hA : ∀ q, sg.heap.size ≤ q → wd_A w sg.heap.size q := fun q h => Or.inr h
  have hl : lv_has ls 2 [(0, .ref m), (1, .int v)] := hl
  refine lv_aload_n hx hb dX3_no_0 rfl (lv_at hl 0 rfl) ?_
  refine lv_iload_n hx hb dX3_no_1 rfl (lv_at hl 1 rfl) ?_
  refine wd_put (ci := 3) (v := .int v) (ty := .int) (C := RX3) (T := TX3) (N := 18) hx hb hts (by decide +kernel) tyX3 tyX3_ok nmX3 hown hK.1 hW hS hR.1 rfl 8 (by decide) (hts (.fieldLink RX3 53 "CharRowsModel" "code" "I") (by decide +kernel)) (fun _ h9 => h9) rfl (by decide +kernel) rfl rfl (Nat.le_of_ble_eq_true rfl) dX3_no_2 (fun H locs hW hS => ?_)
  obtain ⟨w_v1, hW, hR⟩ : ∃ w', wd_P D vwCl (wd_A w sg.heap.size) w' H ∧ rW cI m A fT fK fS fM fI kc v pl XD XP XU XO XB w' := ⟨_, hW, hR.scd v⟩
  refine lv_iconst (v := 0) hx hb dX3_no_5 (by decide) ?_
  refine wd_iret hx hb hr hlocks hW hS dX3_no_6 ?_
  exact ⟨rfl, hR⟩
set_option maxHeartbeats 4000000 in
set_option maxRecDepth 100000 in
theorem k_X3_yes (l : Launch) (D : va_G) (cI cT : ClassId) (w : Wd) (sz : Nat) (m : Nat) (A : Nat → Nat) (fT : Nat → Int32) (fK : Nat → Int32) (fS : Nat → Int32) (fM : Nat → Int32) (fI : Nat → Int32) (kc : Nat) (cd : Int32) (pl : Int32) (XD : Rw) (XP : Rw) (XU : Rw) (XO : Rw) (XB : Rw) (v : Int32) (hR : rW cI m A fT fK fS fM fI kc cd pl XD XP XU XO XB w) : wd_Mi l D vwCl (gK D cI cT) yX3_yes wsX3_yes (wd_rm 0 0 0) [.ref m, .int v] w sz (fun q w' => q = v ∧ rW cI m A fT fK fS fM fI kc 0 pl XD XP XU XO XB w') := by
  refine wd_met (cc := cX3_yes) (maxL := 2) (ret := (some .int)) (by decide) rfl (Nat.le_of_ble_eq_true rfl) ?_
  intro pg ev sg mi bl mt cde ls C0 hsz hK hW hl
  obtain ⟨hx, hb, hr, hml, hown, hts, hlocks, hnm⟩ := C0
  subst hsz
  have hown : sg.vm.findClass RX3 = some mi.cls := hown
  have hS : va_S (wd_A w sg.heap.size) sg.heap sg.heap [] := va_S.rf
  have hA : ∀ q, sg.heap.size ≤ q → wd_A w sg.heap.size q := fun q h => Or.inr h
  have hl : lv_has ls 2 [(0, .ref m), (1, .int v)] := hl
  refine lv_aload_n hx hb dX3_yes_0 rfl (lv_at hl 0 rfl) ?_
  refine lv_iconst (v := 0) hx hb dX3_yes_1 (by decide) ?_
  refine wd_put (ci := 3) (v := .int 0) (ty := .int) (C := RX3) (T := TX3) (N := 18) hx hb hts (by decide +kernel) tyX3 tyX3_ok nmX3 hown hK.1 hW hS hR.1 rfl 8 (by decide) (hts (.fieldLink RX3 53 "CharRowsModel" "code" "I") (by decide +kernel)) (fun _ h9 => h9) rfl (by decide +kernel) rfl rfl (Nat.le_of_ble_eq_true rfl) dX3_yes_2 (fun H locs hW hS => ?_)
  obtain ⟨w_v1, hW, hR⟩ : ∃ w', wd_P D vwCl (wd_A w sg.heap.size) w' H ∧ rW cI m A fT fK fS fM fI kc 0 pl XD XP XU XO XB w' := ⟨_, hW, hR.scd 0⟩
  refine lv_iload_n hx hb dX3_yes_5 rfl (lv_at hl 1 rfl) ?_
  refine wd_iret hx hb hr hlocks hW hS dX3_yes_6 ?_
  exact ⟨rfl, hR⟩
set_option maxHeartbeats 4000000 in
set_option maxRecDepth 100000 in
theorem k_X3_breaks (l : Launch) (D : va_G) (cI cT : ClassId) (w : Wd) (sz : Nat) (m : Nat) (A : Nat → Nat) (fT : Nat → Int32) (fK : Nat → Int32) (fS : Nat → Int32) (fM : Nat → Int32) (fI : Nat → Int32) (kc : Nat) (cd : Int32) (pl : Int32) (XD : Rw) (XP : Rw) (XU : Rw) (XO : Rw) (XB : Rw) (v : Int32) (hR : rW cI m A fT fK fS fM fI kc cd pl XD XP XU XO XB w) : wd_Mi l D vwCl (gK D cI cT) yX3_breaks wsX3_breaks (wd_rm 1 0 0) [.ref m, .int v] w sz (fun q w' => q = 0 ∧ rW cI m A fT fK fS fM fI kc 5 v XD XP XU XO XB w') := by
  refine wd_met (cc := cX3_breaks) (maxL := 2) (ret := (some .int)) (by decide) rfl (Nat.le_of_ble_eq_true rfl) ?_
  intro pg ev sg mi bl mt cde ls C0 hsz hK hW hl
  obtain ⟨hx, hb, hr, hml, hown, hts, hlocks, hnm⟩ := C0
  subst hsz
  have hown : sg.vm.findClass RX3 = some mi.cls := hown
  have hS : va_S (wd_A w sg.heap.size) sg.heap sg.heap [] := va_S.rf
  have hA : ∀ q, sg.heap.size ≤ q → wd_A w sg.heap.size q := fun q h => Or.inr h
  have hl : lv_has ls 2 [(0, .ref m), (1, .int v)] := hl
  refine lv_aload_n hx hb dX3_breaks_0 rfl (lv_at hl 0 rfl) ?_
  refine lv_iload_n hx hb dX3_breaks_1 rfl (lv_at hl 1 rfl) ?_
  refine wd_put (ci := 3) (v := .int v) (ty := .int) (C := RX3) (T := TX3) (N := 18) hx hb hts (by decide +kernel) tyX3 tyX3_ok nmX3 hown hK.1 hW hS hR.1 rfl 9 (by decide) (hts (.fieldLink RX3 28 "CharRowsModel" "broken" "I") (by decide +kernel)) (fun _ h9 => h9) rfl (by decide +kernel) rfl rfl (Nat.le_of_ble_eq_true rfl) dX3_breaks_2 (fun H locs hW hS => ?_)
  obtain ⟨w_v1, hW, hR⟩ : ∃ w', wd_P D vwCl (wd_A w sg.heap.size) w' H ∧ rW cI m A fT fK fS fM fI kc cd v XD XP XU XO XB w' := ⟨_, hW, hR.spl v⟩
  refine lv_aload_n hx hb dX3_breaks_5 rfl (lv_at hl 0 rfl) ?_
  refine lv_iconst (v := 5) hx hb dX3_breaks_6 (by decide) ?_
  refine wd_callVi (As := [.int 5]) (rest := []) (c2 := 0) (s2 := 0) ⟨hx, hb, hml, hown, hts⟩ (k_X3_no l D cI cT w_v1 H.size m A fT fK fS fM fI kc cd v XD XP XU XO XB 5 hR) (cwV 1 hts gX3_breaks_X3_no rfl rfl rfl (by decide +kernel) ⟨Nat.le_of_ble_eq_true rfl, Nat.le_of_ble_eq_true rfl⟩) gK_ok hK hW (wd_recv (ci := 3) hK.1 hW rfl hR.1) hS hA rfl hl.1 rfl (Nat.le_of_ble_eq_true rfl) dX3_breaks_7 ⟨Nat.le_of_ble_eq_true rfl, Nat.le_of_ble_eq_true rfl⟩ rfl rfl (fun r_7 w_7 H locs hp_7 hW hz hS => ?_)
  obtain ⟨q_r, hR⟩ := hp_7
  subst r_7
  refine wd_iret hx hb hr hlocks hW hS dX3_breaks_10 ?_
  exact ⟨rfl, hR⟩
set_option maxHeartbeats 4000000 in
set_option maxRecDepth 100000 in
theorem k_X3_sortOf (l : Launch) (D : va_G) (cI cT : ClassId) (w : Wd) (sz : Nat) (m : Nat) (A : Nat → Nat) (fK : Nat → Int32) (fM : Nat → Int32) (fI : Nat → Int32) (kc : Nat) (cd : Int32) (pl : Int32) (XD : Rw) (XP : Rw) (XU : Rw) (XO : Rw) (XB : Rw) (tx : Nat → Option Nat) (rs : Rws) (tN : Nat) (hR : rW cI m A (fun t => oI (tx t)) fK (fun r => (rs r).1) fM fI kc cd pl XD XP XU XO XB w) (htN : tN < 10) (hlv : ∀ t r, tx t = some r → r < 24) : wd_Mi l D vwCl (gK D cI cT) yX3_sortOf wsX3_sortOf (wd_rm 0 0 0) [.ref m, .int (nI tN)] w sz (fun q w' => q = u_srt rs (tx tN) ∧ w' = w) := by
  refine wd_met (cc := cX3_sortOf) (maxL := 2) (ret := (some .int)) (by decide) rfl (Nat.le_of_ble_eq_true rfl) ?_
  intro pg ev sg mi bl mt cde ls C0 hsz hK hW hl
  obtain ⟨hx, hb, hr, hml, hown, hts, hlocks, hnm⟩ := C0
  subst hsz
  have hown : sg.vm.findClass RX3 = some mi.cls := hown
  have hS : va_S (wd_A w sg.heap.size) sg.heap sg.heap [] := va_S.rf
  have hA : ∀ q, sg.heap.size ≤ q → wd_A w sg.heap.size q := fun q h => Or.inr h
  have hl : lv_has ls 2 [(0, .ref m), (1, .int (nI tN))] := hl
  refine lv_aload_n hx hb dX3_sortOf_0 rfl (lv_at hl 0 rfl) ?_
  refine wd_get (ci := 3) (v := .ref (A 0)) (C := RX3) (T := TX3) (N := 18) hx hb hts (by decide +kernel) hown hK.1 hW hR.1 rfl 0 (by decide) (hts (.fieldLink RX3 7 "CharRowsModel" "textRow" "[I") (by decide +kernel)) (fun _ h9 => h9) rfl dX3_sortOf_1 ?_
  refine lv_iload_n hx hb dX3_sortOf_4 rfl (lv_at hl 1 rfl) ?_
  refine wd_iald hx hb hK.1 hW 0 hR.2.1 rfl (vp_in_nI (by omega) (by omega)) dX3_sortOf_5 ?_
  refine wd_topE (y := oI (tx tN)) (by rw [nI_clamp (by omega)]) ?_
  cases htx_5 : tx tN with
  | none =>
    refine wd_topE (y := -1) rfl ?_
    refine lv_iconst (v := (-1)) hx hb dX3_sortOf_6 (by decide) ?_
    refine lv_icmp_ne (tgt := 14) hx hb dX3_sortOf_7 (by decide) (fun c_7 => ?_) (fun c_7 => ?_)
    ·
      exact absurd rfl c_7
    ·
      refine lv_iconst (v := (-1)) hx hb dX3_sortOf_10 (by decide) ?_
      refine lv_goto (tgt := 25) hx hb dX3_sortOf_11 (by decide) ?_
      refine wd_iret hx hb hr hlocks hW hS dX3_sortOf_25 ?_
      exact ⟨rfl, rfl⟩
  | some r_5 =>
    refine wd_topE (y := nI r_5) rfl ?_
    have hr24_5 := hlv _ _ htx_5
    refine lv_iconst (v := (-1)) hx hb dX3_sortOf_6 (by decide) ?_
    refine lv_icmp_ne (tgt := 14) hx hb dX3_sortOf_7 (by decide) (fun c_7 => ?_) (fun c_7 => ?_)
    ·
      refine lv_aload_n hx hb dX3_sortOf_14 rfl (lv_at hl 0 rfl) ?_
      refine wd_get (ci := 3) (v := .ref (A 2)) (C := RX3) (T := TX3) (N := 18) hx hb hts (by decide +kernel) hown hK.1 hW hR.1 rfl 3 (by decide) (hts (.fieldLink RX3 16 "CharRowsModel" "rowSort" "[I") (by decide +kernel)) (fun _ h9 => h9) rfl dX3_sortOf_15 ?_
      refine lv_aload_n hx hb dX3_sortOf_18 rfl (lv_at hl 0 rfl) ?_
      refine wd_get (ci := 3) (v := .ref (A 0)) (C := RX3) (T := TX3) (N := 18) hx hb hts (by decide +kernel) hown hK.1 hW hR.1 rfl 0 (by decide) (hts (.fieldLink RX3 7 "CharRowsModel" "textRow" "[I") (by decide +kernel)) (fun _ h9 => h9) rfl dX3_sortOf_19 ?_
      refine lv_iload_n hx hb dX3_sortOf_22 rfl (lv_at hl 1 rfl) ?_
      refine wd_iald hx hb hK.1 hW 0 hR.2.1 rfl (vp_in_nI (by omega) (by omega)) dX3_sortOf_23 ?_
      refine wd_topE (y := nI r_5) (by rw [nI_clamp (by omega)]; show oI (tx tN) = _; rw [htx_5]; rfl) ?_
      refine wd_iald hx hb hK.1 hW 0 hR.2.2.2.1 rfl (vp_in_nI (by omega) (by omega)) dX3_sortOf_24 ?_
      refine wd_topE (y := (rs r_5).1) (by rw [nI_clamp (by omega)]) ?_
      refine wd_iret hx hb hr hlocks hW hS dX3_sortOf_25 ?_
      exact ⟨rfl, rfl⟩
    ·
      exact absurd c_7 (nI_ne_m1 (by omega))
set_option maxHeartbeats 4000000 in
set_option maxRecDepth 100000 in
theorem k_X3_manyOf (l : Launch) (D : va_G) (cI cT : ClassId) (w : Wd) (sz : Nat) (m : Nat) (A : Nat → Nat) (fK : Nat → Int32) (fS : Nat → Int32) (fI : Nat → Int32) (kc : Nat) (cd : Int32) (pl : Int32) (XD : Rw) (XP : Rw) (XU : Rw) (XO : Rw) (XB : Rw) (tx : Nat → Option Nat) (rs : Rws) (tN : Nat) (r : Nat) (hR : rW cI m A (fun t => oI (tx t)) fK fS (fun r => nI (rs r).2.length) fI kc cd pl XD XP XU XO XB w) (htN : tN < 10) (htx : tx tN = some r) (hr24 : r < 24) : wd_Mi l D vwCl (gK D cI cT) yX3_manyOf wsX3_manyOf (wd_rm 0 0 0) [.ref m, .int (nI tN)] w sz (fun q w' => q = nI (rs r).2.length ∧ w' = w) := by
  refine wd_met (cc := cX3_manyOf) (maxL := 2) (ret := (some .int)) (by decide) rfl (Nat.le_of_ble_eq_true rfl) ?_
  intro pg ev sg mi bl mt cde ls C0 hsz hK hW hl
  obtain ⟨hx, hb, hr, hml, hown, hts, hlocks, hnm⟩ := C0
  subst hsz
  have hown : sg.vm.findClass RX3 = some mi.cls := hown
  have hS : va_S (wd_A w sg.heap.size) sg.heap sg.heap [] := va_S.rf
  have hA : ∀ q, sg.heap.size ≤ q → wd_A w sg.heap.size q := fun q h => Or.inr h
  have hl : lv_has ls 2 [(0, .ref m), (1, .int (nI tN))] := hl
  refine lv_aload_n hx hb dX3_manyOf_0 rfl (lv_at hl 0 rfl) ?_
  refine wd_get (ci := 3) (v := .ref (A 3)) (C := RX3) (T := TX3) (N := 18) hx hb hts (by decide +kernel) hown hK.1 hW hR.1 rfl 4 (by decide) (hts (.fieldLink RX3 19 "CharRowsModel" "rowMany" "[I") (by decide +kernel)) (fun _ h9 => h9) rfl dX3_manyOf_1 ?_
  refine lv_aload_n hx hb dX3_manyOf_4 rfl (lv_at hl 0 rfl) ?_
  refine wd_get (ci := 3) (v := .ref (A 0)) (C := RX3) (T := TX3) (N := 18) hx hb hts (by decide +kernel) hown hK.1 hW hR.1 rfl 0 (by decide) (hts (.fieldLink RX3 7 "CharRowsModel" "textRow" "[I") (by decide +kernel)) (fun _ h9 => h9) rfl dX3_manyOf_5 ?_
  refine lv_iload_n hx hb dX3_manyOf_8 rfl (lv_at hl 1 rfl) ?_
  refine wd_iald hx hb hK.1 hW 0 hR.2.1 rfl (vp_in_nI (by omega) (by omega)) dX3_manyOf_9 ?_
  refine wd_topE (y := nI r) (by rw [nI_clamp (by omega)]; show oI (tx tN) = _; rw [htx]; rfl) ?_
  refine wd_iald hx hb hK.1 hW 0 hR.2.2.2.2.1 rfl (vp_in_nI (by omega) (by omega)) dX3_manyOf_10 ?_
  refine wd_topE (y := nI (rs r).2.length) (by rw [nI_clamp (by omega)]) ?_
  refine wd_iret hx hb hr hlocks hW hS dX3_manyOf_11 ?_
  exact ⟨rfl, rfl⟩
set_option maxHeartbeats 4000000 in
set_option maxRecDepth 100000 in
theorem k_X3_item (l : Launch) (D : va_G) (cI cT : ClassId) (w : Wd) (sz : Nat) (m : Nat) (A : Nat → Nat) (fK : Nat → Int32) (fS : Nat → Int32) (fM : Nat → Int32) (fI : Nat → Int32) (kc : Nat) (cd : Int32) (pl : Int32) (XD : Rw) (XP : Rw) (XU : Rw) (XO : Rw) (XB : Rw) (tx : Nat → Option Nat) (rs : Rws) (tN : Nat) (r : Nat) (kN : Nat) (hR : rW cI m A (fun t => oI (tx t)) fK fS fM fI kc cd pl XD XP XU XO XB w) (htN : tN < 10) (htx : tx tN = some r) (hr24 : r < 24) (hit : rIt rs fI) (hkN : kN < (rs r).2.length) : wd_Mi l D vwCl (gK D cI cT) yX3_item wsX3_item (wd_rm 0 0 0) [.ref m, .int (nI tN), .int (nI kN)] w sz (fun q w' => q = lf (rs r).2 kN ∧ w' = w) := by
  refine wd_met (cc := cX3_item) (maxL := 3) (ret := (some .int)) (by decide) rfl (Nat.le_of_ble_eq_true rfl) ?_
  intro pg ev sg mi bl mt cde ls C0 hsz hK hW hl
  obtain ⟨hx, hb, hr, hml, hown, hts, hlocks, hnm⟩ := C0
  subst hsz
  have hown : sg.vm.findClass RX3 = some mi.cls := hown
  have hS : va_S (wd_A w sg.heap.size) sg.heap sg.heap [] := va_S.rf
  have hA : ∀ q, sg.heap.size ≤ q → wd_A w sg.heap.size q := fun q h => Or.inr h
  have hl : lv_has ls 3 [(0, .ref m), (1, .int (nI tN)), (2, .int (nI kN))] := hl
  have hl240 := (hit r hr24).1
  refine lv_aload_n hx hb dX3_item_0 rfl (lv_at hl 0 rfl) ?_
  refine wd_get (ci := 3) (v := .ref (A 4)) (C := RX3) (T := TX3) (N := 18) hx hb hts (by decide +kernel) hown hK.1 hW hR.1 rfl 5 (by decide) (hts (.fieldLink RX3 22 "CharRowsModel" "rowItem" "[I") (by decide +kernel)) (fun _ h9 => h9) rfl dX3_item_1 ?_
  refine lv_sipush (v := 240) hx hb dX3_item_4 (by decide) ?_
  refine lv_aload_n hx hb dX3_item_7 rfl (lv_at hl 0 rfl) ?_
  refine wd_get (ci := 3) (v := .ref (A 0)) (C := RX3) (T := TX3) (N := 18) hx hb hts (by decide +kernel) hown hK.1 hW hR.1 rfl 0 (by decide) (hts (.fieldLink RX3 7 "CharRowsModel" "textRow" "[I") (by decide +kernel)) (fun _ h9 => h9) rfl dX3_item_8 ?_
  refine lv_iload_n hx hb dX3_item_11 rfl (lv_at hl 1 rfl) ?_
  refine wd_iald hx hb hK.1 hW 0 hR.2.1 rfl (vp_in_nI (by omega) (by omega)) dX3_item_12 ?_
  refine wd_topE (y := nI r) (by rw [nI_clamp (by omega)]; show oI (tx tN) = _; rw [htx]; rfl) ?_
  refine lv_imul hx hb dX3_item_13 ?_
  refine wd_topE (y := nI (240 * r)) (pk_mul 240 r) ?_
  refine lv_iload_n hx hb dX3_item_14 rfl (lv_at hl 2 rfl) ?_
  refine lv_iadd hx hb dX3_item_15 ?_
  refine wd_topE (y := nI (240 * r + kN)) (nI_add _ _) ?_
  refine wd_iald hx hb hK.1 hW 0 hR.2.2.2.2.2.1 rfl (vp_in_nI (by omega) (by omega)) dX3_item_16 ?_
  refine wd_topE (y := fI (240 * r + kN)) (by rw [nI_clamp (by omega)]) ?_
  refine wd_iret hx hb hr hlocks hW hS dX3_item_17 ?_
  exact ⟨(hit r hr24).2 kN hkN, rfl⟩
set_option maxHeartbeats 4000000 in
set_option maxRecDepth 100000 in
theorem k_X3_addUnits (l : Launch) (D : va_G) (cI cT : ClassId) (w : Wd) (sz : Nat) (m : Nat) (A : Nat → Nat) (fT : Nat → Int32) (fK : Nat → Int32) (fS : Nat → Int32) (fM : Nat → Int32) (fI : Nat → Int32) (kc : Nat) (cd : Int32) (pl : Int32) (XD : Rw) (XP : Rw) (XU : Rw) (XO : Rw) (XB : Rw) (p : Int32) (hR : rW cI m A fT fK fS fM fI kc cd pl XD XP XU XO XB w) (hu : XU.2 + (u_units p).length ≤ 480) : wd_Mv l D vwCl (gK D cI cT) yX3_addUnits wsX3_addUnits (wd_rm 0 0 0) [.ref m, .int p] w sz (fun w' => rW cI m A fT fK fS fM fI kc cd pl XD XP (r_uni 480 p XU) XO XB w') := by
  refine wd_met (cc := cX3_addUnits) (maxL := 2) (ret := none) (by decide) rfl (Nat.le_of_ble_eq_true rfl) ?_
  intro pg ev sg mi bl mt cde ls C0 hsz hK hW hl
  obtain ⟨hx, hb, hr, hml, hown, hts, hlocks, hnm⟩ := C0
  subst hsz
  have hown : sg.vm.findClass RX3 = some mi.cls := hown
  have hS : va_S (wd_A w sg.heap.size) sg.heap sg.heap [] := va_S.rf
  have hA : ∀ q, sg.heap.size ≤ q → wd_A w sg.heap.size q := fun q h => Or.inr h
  have hl : lv_has ls 2 [(0, .ref m), (1, .int p)] := hl
  refine lv_iload_n hx hb dX3_addUnits_0 rfl (lv_at hl 1 rfl) ?_
  refine lv_ldc (v := 65536) hx hb hown (hts (.constant RX3 70 65536) (by decide +kernel)) dX3_addUnits_1 ?_
  refine lv_icmp_ge (tgt := 29) hx hb dX3_addUnits_3 (by decide) (fun c_3 => ?_) (fun c_3 => ?_)
  ·
    simp only [i_le, Decidable.not_not] at c_3
    rw [u_units_len, if_neg c_3] at hu
    refine lv_aload_n hx hb dX3_addUnits_29 rfl (lv_at hl 0 rfl) ?_
    refine wd_get (ci := 3) (v := .ref (A 7)) (C := RX3) (T := TX3) (N := 18) hx hb hts (by decide +kernel) hown hK.1 hW hR.1 rfl 12 (by decide) (hts (.fieldLink RX3 35 "CharRowsModel" "units" "[I") (by decide +kernel)) (fun _ h9 => h9) rfl dX3_addUnits_30 ?_
    refine lv_aload_n hx hb dX3_addUnits_33 rfl (lv_at hl 0 rfl) ?_
    refine wd_get (ci := 3) (v := .int (nI XU.2)) (C := RX3) (T := TX3) (N := 18) hx hb hts (by decide +kernel) hown hK.1 hW hR.1 rfl 13 (by decide) (hts (.fieldLink RX3 71 "CharRowsModel" "unitMany" "I") (by decide +kernel)) (fun _ h9 => h9) rfl dX3_addUnits_34 ?_
    refine lv_ldc (v := 55296) hx hb hown (hts (.constant RX3 49 55296) (by decide +kernel)) dX3_addUnits_37 ?_
    refine lv_iload_n hx hb dX3_addUnits_39 rfl (lv_at hl 1 rfl) ?_
    refine lv_ldc (v := 65536) hx hb hown (hts (.constant RX3 70 65536) (by decide +kernel)) dX3_addUnits_40 ?_
    refine lv_isub hx hb dX3_addUnits_42 ?_
    refine lv_sipush (v := 1024) hx hb dX3_addUnits_43 (by decide) ?_
    refine lv_idiv hx hb dX3_addUnits_46 (by decide) ?_
    refine lv_iadd hx hb dX3_addUnits_47 ?_
    refine wd_iast hx hb hK.1 hW hS 0 hR.2.2.2.2.2.2.2.2.1 rfl (vp_in_nI (by omega) (by omega)) dX3_addUnits_48 (fun H locs hW hS => ?_)
    rw [nI_clamp (by omega)] at hW
    obtain ⟨w_v1, hW, hR⟩ : ∃ w', wd_P D vwCl (wd_A w sg.heap.size) w' H ∧ rW cI m A fT fK fS fM fI kc cd pl XD XP ((upd XU.1 XU.2 (55296 + ((p - 65536) / 1024))), XU.2) XO XB w' := ⟨_, hW, hR.aXU (upd XU.1 XU.2 (55296 + ((p - 65536) / 1024)))⟩
    refine lv_aload_n hx hb dX3_addUnits_49 rfl (lv_at hl 0 rfl) ?_
    refine wd_get (ci := 3) (v := .ref (A 7)) (C := RX3) (T := TX3) (N := 18) hx hb hts (by decide +kernel) hown hK.1 hW hR.1 rfl 12 (by decide) (hts (.fieldLink RX3 35 "CharRowsModel" "units" "[I") (by decide +kernel)) (fun _ h9 => h9) rfl dX3_addUnits_50 ?_
    refine lv_aload_n hx hb dX3_addUnits_53 rfl (lv_at hl 0 rfl) ?_
    refine wd_get (ci := 3) (v := .int (nI XU.2)) (C := RX3) (T := TX3) (N := 18) hx hb hts (by decide +kernel) hown hK.1 hW hR.1 rfl 13 (by decide) (hts (.fieldLink RX3 71 "CharRowsModel" "unitMany" "I") (by decide +kernel)) (fun _ h9 => h9) rfl dX3_addUnits_54 ?_
    refine lv_iconst (v := 1) hx hb dX3_addUnits_57 (by decide) ?_
    refine lv_iadd hx hb dX3_addUnits_58 ?_
    refine wd_topE (y := nI (XU.2 + 1)) (nI_1 _) ?_
    refine lv_ldc (v := 56320) hx hb hown (hts (.constant RX3 51 56320) (by decide +kernel)) dX3_addUnits_59 ?_
    refine lv_iload_n hx hb dX3_addUnits_61 rfl (lv_at hl 1 rfl) ?_
    refine lv_ldc (v := 65536) hx hb hown (hts (.constant RX3 70 65536) (by decide +kernel)) dX3_addUnits_62 ?_
    refine lv_isub hx hb dX3_addUnits_64 ?_
    refine lv_sipush (v := 1024) hx hb dX3_addUnits_65 (by decide) ?_
    refine lv_irem hx hb dX3_addUnits_68 (by decide) ?_
    refine lv_iadd hx hb dX3_addUnits_69 ?_
    refine wd_iast hx hb hK.1 hW hS 0 hR.2.2.2.2.2.2.2.2.1 rfl (vp_in_nI (by omega) (by omega)) dX3_addUnits_70 (fun H locs hW hS => ?_)
    rw [nI_clamp (by omega)] at hW
    obtain ⟨w_v2, hW, hR⟩ : ∃ w', wd_P D vwCl (wd_A w sg.heap.size) w' H ∧ rW cI m A fT fK fS fM fI kc cd pl XD XP ((upd (upd XU.1 XU.2 (55296 + ((p - 65536) / 1024))) (XU.2 + 1) (56320 + ((p - 65536) - (p - 65536) / 1024 * 1024))), XU.2) XO XB w' := ⟨_, hW, hR.aXU (upd (upd XU.1 XU.2 (55296 + ((p - 65536) / 1024))) (XU.2 + 1) (56320 + ((p - 65536) - (p - 65536) / 1024 * 1024)))⟩
    refine lv_aload_n hx hb dX3_addUnits_71 rfl (lv_at hl 0 rfl) ?_
    refine lv_dup hx hb dX3_addUnits_72 rfl ?_
    refine wd_get (ci := 3) (v := .int (nI XU.2)) (C := RX3) (T := TX3) (N := 18) hx hb hts (by decide +kernel) hown hK.1 hW hR.1 rfl 13 (by decide) (hts (.fieldLink RX3 71 "CharRowsModel" "unitMany" "I") (by decide +kernel)) (fun _ h9 => h9) rfl dX3_addUnits_73 ?_
    refine lv_iconst (v := 2) hx hb dX3_addUnits_76 (by decide) ?_
    refine lv_iadd hx hb dX3_addUnits_77 ?_
    refine wd_topE (y := nI (XU.2 + 1 + 1)) (show nI XU.2 + nI 2 = _ from nI_add _ _) ?_
    refine wd_put (ci := 3) (v := .int (nI (XU.2 + 1 + 1))) (ty := .int) (C := RX3) (T := TX3) (N := 18) hx hb hts (by decide +kernel) tyX3 tyX3_ok nmX3 hown hK.1 hW hS hR.1 rfl 13 (by decide) (hts (.fieldLink RX3 71 "CharRowsModel" "unitMany" "I") (by decide +kernel)) (fun _ h9 => h9) rfl (by decide +kernel) rfl rfl (Nat.le_of_ble_eq_true rfl) dX3_addUnits_78 (fun H locs hW hS => ?_)
    obtain ⟨w_v3, hW, hR⟩ : ∃ w', wd_P D vwCl (wd_A w sg.heap.size) w' H ∧ rW cI m A fT fK fS fM fI kc cd pl XD XP ((upd (upd XU.1 XU.2 (55296 + ((p - 65536) / 1024))) (XU.2 + 1) (56320 + ((p - 65536) - (p - 65536) / 1024 * 1024))), XU.2 + 1 + 1) XO XB w' := ⟨_, hW, hR.cXU (XU.2 + 1 + 1)⟩
    refine wd_vret hx hb hr hlocks hW hS dX3_addUnits_81 ?_
    show rW cI m A fT fK fS fM fI kc cd pl XD XP (r_uni 480 p XU) XO XB _
    rw [r_uni, if_neg c_3, r_add, if_pos (by rw [r_add_cnt (by omega)]; omega), r_add, if_pos (by omega)]
    exact hR
  ·
    simp only [i_le, Decidable.not_not] at c_3
    rw [u_units_len, if_pos c_3] at hu
    refine lv_aload_n hx hb dX3_addUnits_6 rfl (lv_at hl 0 rfl) ?_
    refine wd_get (ci := 3) (v := .ref (A 7)) (C := RX3) (T := TX3) (N := 18) hx hb hts (by decide +kernel) hown hK.1 hW hR.1 rfl 12 (by decide) (hts (.fieldLink RX3 35 "CharRowsModel" "units" "[I") (by decide +kernel)) (fun _ h9 => h9) rfl dX3_addUnits_7 ?_
    refine lv_aload_n hx hb dX3_addUnits_10 rfl (lv_at hl 0 rfl) ?_
    refine wd_get (ci := 3) (v := .int (nI XU.2)) (C := RX3) (T := TX3) (N := 18) hx hb hts (by decide +kernel) hown hK.1 hW hR.1 rfl 13 (by decide) (hts (.fieldLink RX3 71 "CharRowsModel" "unitMany" "I") (by decide +kernel)) (fun _ h9 => h9) rfl dX3_addUnits_11 ?_
    refine lv_iload_n hx hb dX3_addUnits_14 rfl (lv_at hl 1 rfl) ?_
    refine wd_iast hx hb hK.1 hW hS 0 hR.2.2.2.2.2.2.2.2.1 rfl (vp_in_nI (by omega) (by omega)) dX3_addUnits_15 (fun H locs hW hS => ?_)
    rw [nI_clamp (by omega)] at hW
    obtain ⟨w_v4, hW, hR⟩ : ∃ w', wd_P D vwCl (wd_A w sg.heap.size) w' H ∧ rW cI m A fT fK fS fM fI kc cd pl XD XP ((upd XU.1 XU.2 p), XU.2) XO XB w' := ⟨_, hW, hR.aXU (upd XU.1 XU.2 p)⟩
    refine lv_aload_n hx hb dX3_addUnits_16 rfl (lv_at hl 0 rfl) ?_
    refine lv_dup hx hb dX3_addUnits_17 rfl ?_
    refine wd_get (ci := 3) (v := .int (nI XU.2)) (C := RX3) (T := TX3) (N := 18) hx hb hts (by decide +kernel) hown hK.1 hW hR.1 rfl 13 (by decide) (hts (.fieldLink RX3 71 "CharRowsModel" "unitMany" "I") (by decide +kernel)) (fun _ h9 => h9) rfl dX3_addUnits_18 ?_
    refine lv_iconst (v := 1) hx hb dX3_addUnits_21 (by decide) ?_
    refine lv_iadd hx hb dX3_addUnits_22 ?_
    refine wd_topE (y := nI (XU.2 + 1)) (nI_1 _) ?_
    refine wd_put (ci := 3) (v := .int (nI (XU.2 + 1))) (ty := .int) (C := RX3) (T := TX3) (N := 18) hx hb hts (by decide +kernel) tyX3 tyX3_ok nmX3 hown hK.1 hW hS hR.1 rfl 13 (by decide) (hts (.fieldLink RX3 71 "CharRowsModel" "unitMany" "I") (by decide +kernel)) (fun _ h9 => h9) rfl (by decide +kernel) rfl rfl (Nat.le_of_ble_eq_true rfl) dX3_addUnits_23 (fun H locs hW hS => ?_)
    obtain ⟨w_v5, hW, hR⟩ : ∃ w', wd_P D vwCl (wd_A w sg.heap.size) w' H ∧ rW cI m A fT fK fS fM fI kc cd pl XD XP ((upd XU.1 XU.2 p), XU.2 + 1) XO XB w' := ⟨_, hW, hR.cXU (XU.2 + 1)⟩
    refine lv_goto (tgt := 81) hx hb dX3_addUnits_26 (by decide) ?_
    refine wd_vret hx hb hr hlocks hW hS dX3_addUnits_81 ?_
    show rW cI m A fT fK fS fM fI kc cd pl XD XP (r_uni 480 p XU) XO XB _
    rw [r_uni, if_pos c_3, r_add, if_pos (by omega)]
    exact hR
