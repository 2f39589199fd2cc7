set_option maxHeartbeats 4000000 in
set_option maxRecDepth 100000 in
theorem k_X2_isNoText (l : Launch) (D : va_G) (cI cT : ClassId) (w : Wd) (sz : Nat) (t : Int32) : wd_Mi l D vwCl (gK D cI cT) yX2_isNoText wsX2_isNoText (wd_rm 0 0 0) [.int t] w sz (fun r w' => r = j_b (j_noText t) ∧ w' = w) := by
  refine wd_met (cc := cX2_isNoText) (maxL := 1) (ret := (some .boolean)) (by decide) rfl (Nat.le_of_ble_eq_true rfl) ?_
  intro pg ev sg mi bl mt cde ls C0 hsz hK hW hl
  obtain ⟨hx, hb, hr, hml, hown, hts, hlocks, hnm⟩ := C0
  subst hsz
  have hown : sg.vm.findClass RX2 = some mi.cls := hown
  have hS : va_S (wd_A w sg.heap.size) sg.heap sg.heap [] := va_S.rf
  have hA : ∀ q, sg.heap.size ≤ q → wd_A w sg.heap.size q := fun q h => Or.inr h
  have hl : lv_has ls 1 [(0, .int t)] := hl
  refine lv_iload_n hx hb dX2_isNoText_0 rfl (lv_at hl 0 rfl) ?_
  refine lv_if_lt (tgt := 10) hx hb dX2_isNoText_1 (by decide) (fun c_1 => ?_) (fun c_1 => ?_)
  ·
    refine lv_iconst (v := 1) hx hb dX2_isNoText_10 (by decide) ?_
    refine lv_goto (tgt := 15) hx hb dX2_isNoText_11 (by decide) ?_
    refine wd_zret hx hb hr hlocks (Or.inr rfl) hW hS dX2_isNoText_15 ?_
    exact ⟨by first | (simp [j_b, j_noText, c_1]; done) | (simp only [j_b, j_noText, i_le]; simp [c_1]; done) | (exfalso; simp_all; done) | rfl, rfl⟩
  ·
    refine lv_iload_n hx hb dX2_isNoText_4 rfl (lv_at hl 0 rfl) ?_
    refine lv_bipush (v := 10) hx hb dX2_isNoText_5 (by decide) ?_
    refine lv_icmp_lt (tgt := 14) hx hb dX2_isNoText_7 (by decide) (fun c_7 => ?_) (fun c_7 => ?_)
    ·
      refine lv_iconst (v := 0) hx hb dX2_isNoText_14 (by decide) ?_
      refine wd_zret hx hb hr hlocks (Or.inl rfl) hW hS dX2_isNoText_15 ?_
      exact ⟨by first | (simp [j_b, j_noText, c_1, c_7]; done) | (simp only [j_b, j_noText, i_le]; simp [c_1, c_7]; done) | (exfalso; simp_all; done) | rfl, rfl⟩
    ·
      refine lv_iconst (v := 1) hx hb dX2_isNoText_10 (by decide) ?_
      refine lv_goto (tgt := 15) hx hb dX2_isNoText_11 (by decide) ?_
      refine wd_zret hx hb hr hlocks (Or.inr rfl) hW hS dX2_isNoText_15 ?_
      exact ⟨by first | (simp [j_b, j_noText, c_1, c_7]; done) | (simp only [j_b, j_noText, i_le]; simp [c_1, c_7]; done) | (exfalso; simp_all; done) | rfl, rfl⟩
set_option maxHeartbeats 4000000 in
set_option maxRecDepth 100000 in
theorem k_X2_isNoPoint (l : Launch) (D : va_G) (cI cT : ClassId) (w : Wd) (sz : Nat) (p : Int32) : wd_Mi l D vwCl (gK D cI cT) yX2_isNoPoint wsX2_isNoPoint (wd_rm 0 0 0) [.int p] w sz (fun r w' => r = j_b (j_noPoint p) ∧ w' = w) := by
  refine wd_met (cc := cX2_isNoPoint) (maxL := 1) (ret := (some .boolean)) (by decide) rfl (Nat.le_of_ble_eq_true rfl) ?_
  intro pg ev sg mi bl mt cde ls C0 hsz hK hW hl
  obtain ⟨hx, hb, hr, hml, hown, hts, hlocks, hnm⟩ := C0
  subst hsz
  have hown : sg.vm.findClass RX2 = some mi.cls := hown
  have hS : va_S (wd_A w sg.heap.size) sg.heap sg.heap [] := va_S.rf
  have hA : ∀ q, sg.heap.size ≤ q → wd_A w sg.heap.size q := fun q h => Or.inr h
  have hl : lv_has ls 1 [(0, .int p)] := hl
  refine lv_iload_n hx hb dX2_isNoPoint_0 rfl (lv_at hl 0 rfl) ?_
  refine lv_if_lt (tgt := 10) hx hb dX2_isNoPoint_1 (by decide) (fun c_1 => ?_) (fun c_1 => ?_)
  ·
    refine lv_iconst (v := 1) hx hb dX2_isNoPoint_10 (by decide) ?_
    refine lv_goto (tgt := 15) hx hb dX2_isNoPoint_11 (by decide) ?_
    refine wd_zret hx hb hr hlocks (Or.inr rfl) hW hS dX2_isNoPoint_15 ?_
    exact ⟨by first | (simp [j_b, j_noPoint, c_1]; done) | (simp only [j_b, j_noPoint, i_le]; simp [c_1]; done) | (exfalso; simp_all; done) | rfl, rfl⟩
  ·
    refine lv_iload_n hx hb dX2_isNoPoint_4 rfl (lv_at hl 0 rfl) ?_
    refine lv_ldc (v := 1114111) hx hb hown (hts (.constant RX2 181 1114111) (by decide +kernel)) dX2_isNoPoint_5 ?_
    refine lv_icmp_le (tgt := 14) hx hb dX2_isNoPoint_7 (by decide) (fun c_7 => ?_) (fun c_7 => ?_)
    ·
      simp only [i_le, Decidable.not_not] at c_7
      refine lv_iconst (v := 0) hx hb dX2_isNoPoint_14 (by decide) ?_
      refine wd_zret hx hb hr hlocks (Or.inl rfl) hW hS dX2_isNoPoint_15 ?_
      exact ⟨by first | (simp [j_b, j_noPoint, c_1, c_7]; done) | (simp only [j_b, j_noPoint, i_le]; simp [c_1, c_7]; done) | (exfalso; simp_all; done) | rfl, rfl⟩
    ·
      simp only [i_le, Decidable.not_not] at c_7
      refine lv_iconst (v := 1) hx hb dX2_isNoPoint_10 (by decide) ?_
      refine lv_goto (tgt := 15) hx hb dX2_isNoPoint_11 (by decide) ?_
      refine wd_zret hx hb hr hlocks (Or.inr rfl) hW hS dX2_isNoPoint_15 ?_
      exact ⟨by first | (simp [j_b, j_noPoint, c_1, c_7]; done) | (simp only [j_b, j_noPoint, i_le]; simp [c_1, c_7]; done) | (exfalso; simp_all; done) | rfl, rfl⟩
set_option maxHeartbeats 4000000 in
set_option maxRecDepth 100000 in
theorem k_X2_isNoForm (l : Launch) (D : va_G) (cI cT : ClassId) (w : Wd) (sz : Nat) (f : Int32) : wd_Mi l D vwCl (gK D cI cT) yX2_isNoForm wsX2_isNoForm (wd_rm 0 0 0) [.int f] w sz (fun r w' => r = j_b (j_noForm f) ∧ w' = w) := by
  refine wd_met (cc := cX2_isNoForm) (maxL := 1) (ret := (some .boolean)) (by decide) rfl (Nat.le_of_ble_eq_true rfl) ?_
  intro pg ev sg mi bl mt cde ls C0 hsz hK hW hl
  obtain ⟨hx, hb, hr, hml, hown, hts, hlocks, hnm⟩ := C0
  subst hsz
  have hown : sg.vm.findClass RX2 = some mi.cls := hown
  have hS : va_S (wd_A w sg.heap.size) sg.heap sg.heap [] := va_S.rf
  have hA : ∀ q, sg.heap.size ≤ q → wd_A w sg.heap.size q := fun q h => Or.inr h
  have hl : lv_has ls 1 [(0, .int f)] := hl
  refine lv_iload_n hx hb dX2_isNoForm_0 rfl (lv_at hl 0 rfl) ?_
  refine lv_if_lt (tgt := 9) hx hb dX2_isNoForm_1 (by decide) (fun c_1 => ?_) (fun c_1 => ?_)
  ·
    refine lv_iconst (v := 1) hx hb dX2_isNoForm_9 (by decide) ?_
    refine lv_goto (tgt := 14) hx hb dX2_isNoForm_10 (by decide) ?_
    refine wd_zret hx hb hr hlocks (Or.inr rfl) hW hS dX2_isNoForm_14 ?_
    exact ⟨by first | (simp [j_b, j_noForm, c_1]; done) | (simp only [j_b, j_noForm, i_le]; simp [c_1]; done) | (exfalso; simp_all; done) | rfl, rfl⟩
  ·
    refine lv_iload_n hx hb dX2_isNoForm_4 rfl (lv_at hl 0 rfl) ?_
    refine lv_iconst (v := 3) hx hb dX2_isNoForm_5 (by decide) ?_
    refine lv_icmp_le (tgt := 13) hx hb dX2_isNoForm_6 (by decide) (fun c_6 => ?_) (fun c_6 => ?_)
    ·
      simp only [i_le, Decidable.not_not] at c_6
      refine lv_iconst (v := 0) hx hb dX2_isNoForm_13 (by decide) ?_
      refine wd_zret hx hb hr hlocks (Or.inl rfl) hW hS dX2_isNoForm_14 ?_
      exact ⟨by first | (simp [j_b, j_noForm, c_1, c_6]; done) | (simp only [j_b, j_noForm, i_le]; simp [c_1, c_6]; done) | (exfalso; simp_all; done) | rfl, rfl⟩
    ·
      simp only [i_le, Decidable.not_not] at c_6
      refine lv_iconst (v := 1) hx hb dX2_isNoForm_9 (by decide) ?_
      refine lv_goto (tgt := 14) hx hb dX2_isNoForm_10 (by decide) ?_
      refine wd_zret hx hb hr hlocks (Or.inr rfl) hW hS dX2_isNoForm_14 ?_
      exact ⟨by first | (simp [j_b, j_noForm, c_1, c_6]; done) | (simp only [j_b, j_noForm, i_le]; simp [c_1, c_6]; done) | (exfalso; simp_all; done) | rfl, rfl⟩
set_option maxHeartbeats 4000000 in
set_option maxRecDepth 100000 in
theorem k_X2_isNoWay (l : Launch) (D : va_G) (cI cT : ClassId) (w : Wd) (sz : Nat) (y : Int32) : wd_Mi l D vwCl (gK D cI cT) yX2_isNoWay wsX2_isNoWay (wd_rm 0 0 0) [.int y] w sz (fun r w' => r = j_b (j_noWay y) ∧ w' = w) := by
  refine wd_met (cc := cX2_isNoWay) (maxL := 1) (ret := (some .boolean)) (by decide) rfl (Nat.le_of_ble_eq_true rfl) ?_
  intro pg ev sg mi bl mt cde ls C0 hsz hK hW hl
  obtain ⟨hx, hb, hr, hml, hown, hts, hlocks, hnm⟩ := C0
  subst hsz
  have hown : sg.vm.findClass RX2 = some mi.cls := hown
  have hS : va_S (wd_A w sg.heap.size) sg.heap sg.heap [] := va_S.rf
  have hA : ∀ q, sg.heap.size ≤ q → wd_A w sg.heap.size q := fun q h => Or.inr h
  have hl : lv_has ls 1 [(0, .int y)] := hl
  refine lv_iload_n hx hb dX2_isNoWay_0 rfl (lv_at hl 0 rfl) ?_
  refine lv_if_eq (tgt := 13) hx hb dX2_isNoWay_1 (by decide) (fun c_1 => ?_) (fun c_1 => ?_)
  ·
    refine lv_iconst (v := 0) hx hb dX2_isNoWay_13 (by decide) ?_
    refine wd_zret hx hb hr hlocks (Or.inl rfl) hW hS dX2_isNoWay_14 ?_
    exact ⟨by first | (simp [j_b, j_noWay, c_1]; done) | (simp only [j_b, j_noWay, i_le]; simp [c_1]; done) | (exfalso; simp_all; done) | rfl, rfl⟩
  ·
    refine lv_iload_n hx hb dX2_isNoWay_4 rfl (lv_at hl 0 rfl) ?_
    refine lv_iconst (v := 1) hx hb dX2_isNoWay_5 (by decide) ?_
    refine lv_icmp_eq (tgt := 13) hx hb dX2_isNoWay_6 (by decide) (fun c_6 => ?_) (fun c_6 => ?_)
    ·
      refine lv_iconst (v := 0) hx hb dX2_isNoWay_13 (by decide) ?_
      refine wd_zret hx hb hr hlocks (Or.inl rfl) hW hS dX2_isNoWay_14 ?_
      exact ⟨by first | (simp [j_b, j_noWay, c_1, c_6]; done) | (simp only [j_b, j_noWay, i_le]; simp [c_1, c_6]; done) | (exfalso; simp_all; done) | rfl, rfl⟩
    ·
      refine lv_iconst (v := 1) hx hb dX2_isNoWay_9 (by decide) ?_
      refine lv_goto (tgt := 14) hx hb dX2_isNoWay_10 (by decide) ?_
      refine wd_zret hx hb hr hlocks (Or.inr rfl) hW hS dX2_isNoWay_14 ?_
      exact ⟨by first | (simp [j_b, j_noWay, c_1, c_6]; done) | (simp only [j_b, j_noWay, i_le]; simp [c_1, c_6]; done) | (exfalso; simp_all; done) | rfl, rfl⟩
set_option maxHeartbeats 4000000 in
set_option maxRecDepth 100000 in
theorem k_X2_isHigh (l : Launch) (D : va_G) (cI cT : ClassId) (w : Wd) (sz : Nat) (u : Int32) : wd_Mi l D vwCl (gK D cI cT) yX2_isHigh wsX2_isHigh (wd_rm 0 0 0) [.int u] w sz (fun r w' => r = j_b (j_high u) ∧ w' = w) := by
  refine wd_met (cc := cX2_isHigh) (maxL := 1) (ret := (some .boolean)) (by decide) rfl (Nat.le_of_ble_eq_true rfl) ?_
  intro pg ev sg mi bl mt cde ls C0 hsz hK hW hl
  obtain ⟨hx, hb, hr, hml, hown, hts, hlocks, hnm⟩ := C0
  subst hsz
  have hown : sg.vm.findClass RX2 = some mi.cls := hown
  have hS : va_S (wd_A w sg.heap.size) sg.heap sg.heap [] := va_S.rf
  have hA : ∀ q, sg.heap.size ≤ q → wd_A w sg.heap.size q := fun q h => Or.inr h
  have hl : lv_has ls 1 [(0, .int u)] := hl
  refine lv_iload_n hx hb dX2_isHigh_0 rfl (lv_at hl 0 rfl) ?_
  refine lv_ldc (v := 55296) hx hb hown (hts (.constant RX2 182 55296) (by decide +kernel)) dX2_isHigh_1 ?_
  refine lv_icmp_lt (tgt := 16) hx hb dX2_isHigh_3 (by decide) (fun c_3 => ?_) (fun c_3 => ?_)
  ·
    refine lv_iconst (v := 0) hx hb dX2_isHigh_16 (by decide) ?_
    refine wd_zret hx hb hr hlocks (Or.inl rfl) hW hS dX2_isHigh_17 ?_
    exact ⟨by first | (simp [j_b, j_high, c_3]; done) | (simp only [j_b, j_high, i_le]; simp [c_3]; done) | (exfalso; simp_all; done) | rfl, rfl⟩
  ·
    refine lv_iload_n hx hb dX2_isHigh_6 rfl (lv_at hl 0 rfl) ?_
    refine lv_ldc (v := 56320) hx hb hown (hts (.constant RX2 183 56320) (by decide +kernel)) dX2_isHigh_7 ?_
    refine lv_icmp_ge (tgt := 16) hx hb dX2_isHigh_9 (by decide) (fun c_9 => ?_) (fun c_9 => ?_)
    ·
      simp only [i_le, Decidable.not_not] at c_9
      refine lv_iconst (v := 0) hx hb dX2_isHigh_16 (by decide) ?_
      refine wd_zret hx hb hr hlocks (Or.inl rfl) hW hS dX2_isHigh_17 ?_
      exact ⟨by first | (simp [j_b, j_high, c_3, c_9]; done) | (simp only [j_b, j_high, i_le]; simp [c_3, c_9]; done) | (exfalso; simp_all; done) | rfl, rfl⟩
    ·
      simp only [i_le, Decidable.not_not] at c_9
      refine lv_iconst (v := 1) hx hb dX2_isHigh_12 (by decide) ?_
      refine lv_goto (tgt := 17) hx hb dX2_isHigh_13 (by decide) ?_
      refine wd_zret hx hb hr hlocks (Or.inr rfl) hW hS dX2_isHigh_17 ?_
      exact ⟨by first | (simp [j_b, j_high, c_3, c_9]; done) | (simp only [j_b, j_high, i_le]; simp [c_3, c_9]; done) | (exfalso; simp_all; done) | rfl, rfl⟩
set_option maxHeartbeats 4000000 in
set_option maxRecDepth 100000 in
theorem k_X2_isLow (l : Launch) (D : va_G) (cI cT : ClassId) (w : Wd) (sz : Nat) (u : Int32) : wd_Mi l D vwCl (gK D cI cT) yX2_isLow wsX2_isLow (wd_rm 0 0 0) [.int u] w sz (fun r w' => r = j_b (j_low u) ∧ w' = w) := by
  refine wd_met (cc := cX2_isLow) (maxL := 1) (ret := (some .boolean)) (by decide) rfl (Nat.le_of_ble_eq_true rfl) ?_
  intro pg ev sg mi bl mt cde ls C0 hsz hK hW hl
  obtain ⟨hx, hb, hr, hml, hown, hts, hlocks, hnm⟩ := C0
  subst hsz
  have hown : sg.vm.findClass RX2 = some mi.cls := hown
  have hS : va_S (wd_A w sg.heap.size) sg.heap sg.heap [] := va_S.rf
  have hA : ∀ q, sg.heap.size ≤ q → wd_A w sg.heap.size q := fun q h => Or.inr h
  have hl : lv_has ls 1 [(0, .int u)] := hl
  refine lv_iload_n hx hb dX2_isLow_0 rfl (lv_at hl 0 rfl) ?_
  refine lv_ldc (v := 56320) hx hb hown (hts (.constant RX2 183 56320) (by decide +kernel)) dX2_isLow_1 ?_
  refine lv_icmp_lt (tgt := 16) hx hb dX2_isLow_3 (by decide) (fun c_3 => ?_) (fun c_3 => ?_)
  ·
    refine lv_iconst (v := 0) hx hb dX2_isLow_16 (by decide) ?_
    refine wd_zret hx hb hr hlocks (Or.inl rfl) hW hS dX2_isLow_17 ?_
    exact ⟨by first | (simp [j_b, j_low, c_3]; done) | (simp only [j_b, j_low, i_le]; simp [c_3]; done) | (exfalso; simp_all; done) | rfl, rfl⟩
  ·
    refine lv_iload_n hx hb dX2_isLow_6 rfl (lv_at hl 0 rfl) ?_
    refine lv_ldc (v := 57343) hx hb hown (hts (.constant RX2 184 57343) (by decide +kernel)) dX2_isLow_7 ?_
    refine lv_icmp_gt (tgt := 16) hx hb dX2_isLow_9 (by decide) (fun c_9 => ?_) (fun c_9 => ?_)
    ·
      refine lv_iconst (v := 0) hx hb dX2_isLow_16 (by decide) ?_
      refine wd_zret hx hb hr hlocks (Or.inl rfl) hW hS dX2_isLow_17 ?_
      exact ⟨by first | (simp [j_b, j_low, c_3, c_9]; done) | (simp only [j_b, j_low, i_le]; simp [c_3, c_9]; done) | (exfalso; simp_all; done) | rfl, rfl⟩
    ·
      refine lv_iconst (v := 1) hx hb dX2_isLow_12 (by decide) ?_
      refine lv_goto (tgt := 17) hx hb dX2_isLow_13 (by decide) ?_
      refine wd_zret hx hb hr hlocks (Or.inr rfl) hW hS dX2_isLow_17 ?_
      exact ⟨by first | (simp [j_b, j_low, c_3, c_9]; done) | (simp only [j_b, j_low, i_le]; simp [c_3, c_9]; done) | (exfalso; simp_all; done) | rfl, rfl⟩
set_option maxHeartbeats 4000000 in
set_option maxRecDepth 100000 in
theorem k_X2_unitCount (l : Launch) (D : va_G) (cI cT : ClassId) (w : Wd) (sz : Nat) (p : Int32) : wd_Mi l D vwCl (gK D cI cT) yX2_unitCount wsX2_unitCount (wd_rm 0 0 0) [.int p] w sz (fun r w' => r = j_uc p ∧ w' = w) := by
  refine wd_met (cc := cX2_unitCount) (maxL := 1) (ret := (some .int)) (by decide) rfl (Nat.le_of_ble_eq_true rfl) ?_
  intro pg ev sg mi bl mt cde ls C0 hsz hK hW hl
  obtain ⟨hx, hb, hr, hml, hown, hts, hlocks, hnm⟩ := C0
  subst hsz
  have hown : sg.vm.findClass RX2 = some mi.cls := hown
  have hS : va_S (wd_A w sg.heap.size) sg.heap sg.heap [] := va_S.rf
  have hA : ∀ q, sg.heap.size ≤ q → wd_A w sg.heap.size q := fun q h => Or.inr h
  have hl : lv_has ls 1 [(0, .int p)] := hl
  refine lv_iload_n hx hb dX2_unitCount_0 rfl (lv_at hl 0 rfl) ?_
  refine lv_ldc (v := 65536) hx hb hown (hts (.constant RX2 173 65536) (by decide +kernel)) dX2_unitCount_1 ?_
  refine lv_icmp_ge (tgt := 10) hx hb dX2_unitCount_3 (by decide) (fun c_3 => ?_) (fun c_3 => ?_)
  ·
    simp only [i_le, Decidable.not_not] at c_3
    refine lv_iconst (v := 2) hx hb dX2_unitCount_10 (by decide) ?_
    refine wd_iret hx hb hr hlocks hW hS dX2_unitCount_11 ?_
    exact ⟨by first | (simp [j_uc, c_3]; done) | (simp only [j_uc, i_le]; simp [c_3]; done) | (exfalso; simp_all; done) | rfl, rfl⟩
  ·
    simp only [i_le, Decidable.not_not] at c_3
    refine lv_iconst (v := 1) hx hb dX2_unitCount_6 (by decide) ?_
    refine lv_goto (tgt := 11) hx hb dX2_unitCount_7 (by decide) ?_
    refine wd_iret hx hb hr hlocks hW hS dX2_unitCount_11 ?_
    exact ⟨by first | (simp [j_uc, c_3]; done) | (simp only [j_uc, i_le]; simp [c_3]; done) | (exfalso; simp_all; done) | rfl, rfl⟩
set_option maxHeartbeats 4000000 in
set_option maxRecDepth 100000 in
theorem k_X2_maskOf (l : Launch) (D : va_G) (cI cT : ClassId) (w : Wd) (sz : Nat) (k : Int32) : wd_Mi l D vwCl (gK D cI cT) yX2_maskOf wsX2_maskOf (wd_rm 0 0 0) [.int k] w sz (fun r w' => r = j_mask k ∧ w' = w) := by
  refine wd_met (cc := cX2_maskOf) (maxL := 1) (ret := (some .int)) (by decide) rfl (Nat.le_of_ble_eq_true rfl) ?_
  intro pg ev sg mi bl mt cde ls C0 hsz hK hW hl
  obtain ⟨hx, hb, hr, hml, hown, hts, hlocks, hnm⟩ := C0
  subst hsz
  have hown : sg.vm.findClass RX2 = some mi.cls := hown
  have hS : va_S (wd_A w sg.heap.size) sg.heap sg.heap [] := va_S.rf
  have hA : ∀ q, sg.heap.size ≤ q → wd_A w sg.heap.size q := fun q h => Or.inr h
  have hl : lv_has ls 1 [(0, .int k)] := hl
  refine lv_iload_n hx hb dX2_maskOf_0 rfl (lv_at hl 0 rfl) ?_
  refine lv_iconst (v := 2) hx hb dX2_maskOf_1 (by decide) ?_
  refine lv_icmp_ne (tgt := 11) hx hb dX2_maskOf_2 (by decide) (fun c_2 => ?_) (fun c_2 => ?_)
  ·
    refine lv_ldc (v := 65535) hx hb hown (hts (.constant RX2 64 65535) (by decide +kernel)) dX2_maskOf_11 ?_
    refine wd_iret hx hb hr hlocks hW hS dX2_maskOf_13 ?_
    exact ⟨by first | (simp [j_mask, c_2]; done) | (simp only [j_mask, i_le]; simp [c_2]; done) | (exfalso; simp_all; done) | rfl, rfl⟩
  ·
    refine lv_sipush (v := 255) hx hb dX2_maskOf_5 (by decide) ?_
    refine lv_goto (tgt := 13) hx hb dX2_maskOf_8 (by decide) ?_
    refine wd_iret hx hb hr hlocks hW hS dX2_maskOf_13 ?_
    exact ⟨by first | (simp [j_mask, c_2]; done) | (simp only [j_mask, i_le]; simp [c_2]; done) | (exfalso; simp_all; done) | rfl, rfl⟩
set_option maxHeartbeats 4000000 in
set_option maxRecDepth 100000 in
theorem k_X2_byteCount (l : Launch) (D : va_G) (cI cT : ClassId) (w : Wd) (sz : Nat) (x : Int32) : wd_Mi l D vwCl (gK D cI cT) yX2_byteCount wsX2_byteCount (wd_rm 0 0 0) [.int x] w sz (fun r w' => r = j_bc x ∧ w' = w) := by
  refine wd_met (cc := cX2_byteCount) (maxL := 1) (ret := (some .int)) (by decide) rfl (Nat.le_of_ble_eq_true rfl) ?_
  intro pg ev sg mi bl mt cde ls C0 hsz hK hW hl
  obtain ⟨hx, hb, hr, hml, hown, hts, hlocks, hnm⟩ := C0
  subst hsz
  have hown : sg.vm.findClass RX2 = some mi.cls := hown
  have hS : va_S (wd_A w sg.heap.size) sg.heap sg.heap [] := va_S.rf
  have hA : ∀ q, sg.heap.size ≤ q → wd_A w sg.heap.size q := fun q h => Or.inr h
  have hl : lv_has ls 1 [(0, .int x)] := hl
  refine lv_iload_n hx hb dX2_byteCount_0 rfl (lv_at hl 0 rfl) ?_
  refine lv_sipush (v := 128) hx hb dX2_byteCount_1 (by decide) ?_
  refine lv_icmp_ge (tgt := 9) hx hb dX2_byteCount_4 (by decide) (fun c_4 => ?_) (fun c_4 => ?_)
  ·
    simp only [i_le, Decidable.not_not] at c_4
    refine lv_iload_n hx hb dX2_byteCount_9 rfl (lv_at hl 0 rfl) ?_
    refine lv_sipush (v := 194) hx hb dX2_byteCount_10 (by decide) ?_
    refine lv_icmp_lt (tgt := 23) hx hb dX2_byteCount_13 (by decide) (fun c_13 => ?_) (fun c_13 => ?_)
    ·
      refine lv_iconst (v := 0) hx hb dX2_byteCount_23 (by decide) ?_
      refine wd_iret hx hb hr hlocks hW hS dX2_byteCount_24 ?_
      exact ⟨by first | (simp [j_bc, c_4, c_13]; done) | (simp only [j_bc, i_le]; simp [c_4, c_13]; done) | (exfalso; simp_all; done) | rfl, rfl⟩
    ·
      refine lv_iload_n hx hb dX2_byteCount_16 rfl (lv_at hl 0 rfl) ?_
      refine lv_sipush (v := 244) hx hb dX2_byteCount_17 (by decide) ?_
      refine lv_icmp_le (tgt := 25) hx hb dX2_byteCount_20 (by decide) (fun c_20 => ?_) (fun c_20 => ?_)
      ·
        simp only [i_le, Decidable.not_not] at c_20
        refine lv_iload_n hx hb dX2_byteCount_25 rfl (lv_at hl 0 rfl) ?_
        refine lv_sipush (v := 224) hx hb dX2_byteCount_26 (by decide) ?_
        refine lv_icmp_ge (tgt := 34) hx hb dX2_byteCount_29 (by decide) (fun c_29 => ?_) (fun c_29 => ?_)
        ·
          simp only [i_le, Decidable.not_not] at c_29
          refine lv_iload_n hx hb dX2_byteCount_34 rfl (lv_at hl 0 rfl) ?_
          refine lv_sipush (v := 240) hx hb dX2_byteCount_35 (by decide) ?_
          refine lv_icmp_ge (tgt := 45) hx hb dX2_byteCount_38 (by decide) (fun c_38 => ?_) (fun c_38 => ?_)
          ·
            simp only [i_le, Decidable.not_not] at c_38
            refine lv_iconst (v := 4) hx hb dX2_byteCount_45 (by decide) ?_
            refine wd_iret hx hb hr hlocks hW hS dX2_byteCount_46 ?_
            exact ⟨by first | (simp [j_bc, c_4, c_13, c_20, c_29, c_38]; done) | (simp only [j_bc, i_le]; simp [c_4, c_13, c_20, c_29, c_38]; done) | (exfalso; simp_all; done) | rfl, rfl⟩
          ·
            simp only [i_le, Decidable.not_not] at c_38
            refine lv_iconst (v := 3) hx hb dX2_byteCount_41 (by decide) ?_
            refine lv_goto (tgt := 46) hx hb dX2_byteCount_42 (by decide) ?_
            refine wd_iret hx hb hr hlocks hW hS dX2_byteCount_46 ?_
            exact ⟨by first | (simp [j_bc, c_4, c_13, c_20, c_29, c_38]; done) | (simp only [j_bc, i_le]; simp [c_4, c_13, c_20, c_29, c_38]; done) | (exfalso; simp_all; done) | rfl, rfl⟩
        ·
          simp only [i_le, Decidable.not_not] at c_29
          refine lv_iconst (v := 2) hx hb dX2_byteCount_32 (by decide) ?_
          refine wd_iret hx hb hr hlocks hW hS dX2_byteCount_33 ?_
          exact ⟨by first | (simp [j_bc, c_4, c_13, c_20, c_29]; done) | (simp only [j_bc, i_le]; simp [c_4, c_13, c_20, c_29]; done) | (exfalso; simp_all; done) | rfl, rfl⟩
      ·
        simp only [i_le, Decidable.not_not] at c_20
        refine lv_iconst (v := 0) hx hb dX2_byteCount_23 (by decide) ?_
        refine wd_iret hx hb hr hlocks hW hS dX2_byteCount_24 ?_
        exact ⟨by first | (simp [j_bc, c_4, c_13, c_20]; done) | (simp only [j_bc, i_le]; simp [c_4, c_13, c_20]; done) | (exfalso; simp_all; done) | rfl, rfl⟩
  ·
    simp only [i_le, Decidable.not_not] at c_4
    refine lv_iconst (v := 1) hx hb dX2_byteCount_7 (by decide) ?_
    refine wd_iret hx hb hr hlocks hW hS dX2_byteCount_8 ?_
    exact ⟨by first | (simp [j_bc, c_4]; done) | (simp only [j_bc, i_le]; simp [c_4]; done) | (exfalso; simp_all; done) | rfl, rfl⟩
set_option maxHeartbeats 4000000 in
set_option maxRecDepth 100000 in
theorem k_X2_greater (l : Launch) (D : va_G) (cI cT : ClassId) (w : Wd) (sz : Nat) (p : Int32) : wd_Mi l D vwCl (gK D cI cT) yX2_greater wsX2_greater (wd_rm 0 0 0) [.int p] w sz (fun r w' => r = j_gr p ∧ w' = w) := by
  refine wd_met (cc := cX2_greater) (maxL := 1) (ret := (some .int)) (by decide) rfl (Nat.le_of_ble_eq_true rfl) ?_
  intro pg ev sg mi bl mt cde ls C0 hsz hK hW hl
  obtain ⟨hx, hb, hr, hml, hown, hts, hlocks, hnm⟩ := C0
  subst hsz
  have hown : sg.vm.findClass RX2 = some mi.cls := hown
  have hS : va_S (wd_A w sg.heap.size) sg.heap sg.heap [] := va_S.rf
  have hA : ∀ q, sg.heap.size ≤ q → wd_A w sg.heap.size q := fun q h => Or.inr h
  have hl : lv_has ls 1 [(0, .int p)] := hl
  refine lv_iload_n hx hb dX2_greater_0 rfl (lv_at hl 0 rfl) ?_
  refine lv_bipush (v := 97) hx hb dX2_greater_1 (by decide) ?_
  refine lv_icmp_lt (tgt := 12) hx hb dX2_greater_3 (by decide) (fun c_3 => ?_) (fun c_3 => ?_)
  ·
    refine lv_iload_n hx hb dX2_greater_12 rfl (lv_at hl 0 rfl) ?_
    refine lv_sipush (v := 224) hx hb dX2_greater_13 (by decide) ?_
    refine lv_icmp_lt (tgt := 38) hx hb dX2_greater_16 (by decide) (fun c_16 => ?_) (fun c_16 => ?_)
    ·
      refine lv_iload_n hx hb dX2_greater_38 rfl (lv_at hl 0 rfl) ?_
      refine lv_sipush (v := 255) hx hb dX2_greater_39 (by decide) ?_
      refine lv_icmp_ne (tgt := 51) hx hb dX2_greater_42 (by decide) (fun c_42 => ?_) (fun c_42 => ?_)
      ·
        refine lv_iload_n hx hb dX2_greater_51 rfl (lv_at hl 0 rfl) ?_
        refine wd_iret hx hb hr hlocks hW hS dX2_greater_52 ?_
        exact ⟨by first | (simp [j_gr, c_3, c_16, c_42]; done) | (simp only [j_gr, i_le]; simp [c_3, c_16, c_42]; done) | (exfalso; simp_all; done) | rfl, rfl⟩
      ·
        refine lv_sipush (v := 376) hx hb dX2_greater_45 (by decide) ?_
        refine lv_goto (tgt := 52) hx hb dX2_greater_48 (by decide) ?_
        refine wd_iret hx hb hr hlocks hW hS dX2_greater_52 ?_
        exact ⟨by first | (simp [j_gr, c_3, c_16, c_42]; done) | (simp only [j_gr, i_le]; simp [c_3, c_16, c_42]; done) | (exfalso; simp_all; done) | rfl, rfl⟩
    ·
      refine lv_iload_n hx hb dX2_greater_19 rfl (lv_at hl 0 rfl) ?_
      refine lv_sipush (v := 254) hx hb dX2_greater_20 (by decide) ?_
      refine lv_icmp_gt (tgt := 38) hx hb dX2_greater_23 (by decide) (fun c_23 => ?_) (fun c_23 => ?_)
      ·
        refine lv_iload_n hx hb dX2_greater_38 rfl (lv_at hl 0 rfl) ?_
        refine lv_sipush (v := 255) hx hb dX2_greater_39 (by decide) ?_
        refine lv_icmp_ne (tgt := 51) hx hb dX2_greater_42 (by decide) (fun c_42 => ?_) (fun c_42 => ?_)
        ·
          refine lv_iload_n hx hb dX2_greater_51 rfl (lv_at hl 0 rfl) ?_
          refine wd_iret hx hb hr hlocks hW hS dX2_greater_52 ?_
          exact ⟨by first | (simp [j_gr, c_3, c_16, c_23, c_42]; done) | (simp only [j_gr, i_le]; simp [c_3, c_16, c_23, c_42]; done) | (exfalso; simp_all; done) | rfl, rfl⟩
        ·
          refine lv_sipush (v := 376) hx hb dX2_greater_45 (by decide) ?_
          refine lv_goto (tgt := 52) hx hb dX2_greater_48 (by decide) ?_
          refine wd_iret hx hb hr hlocks hW hS dX2_greater_52 ?_
          exact ⟨by first | (simp [j_gr, c_3, c_16, c_23, c_42]; done) | (simp only [j_gr, i_le]; simp [c_3, c_16, c_23, c_42]; done) | (exfalso; simp_all; done) | rfl, rfl⟩
      ·
        refine lv_iload_n hx hb dX2_greater_26 rfl (lv_at hl 0 rfl) ?_
        refine lv_sipush (v := 247) hx hb dX2_greater_27 (by decide) ?_
        refine lv_icmp_eq (tgt := 38) hx hb dX2_greater_30 (by decide) (fun c_30 => ?_) (fun c_30 => ?_)
        ·
          refine lv_iload_n hx hb dX2_greater_38 rfl (lv_at hl 0 rfl) ?_
          refine lv_sipush (v := 255) hx hb dX2_greater_39 (by decide) ?_
          refine lv_icmp_ne (tgt := 51) hx hb dX2_greater_42 (by decide) (fun c_42 => ?_) (fun c_42 => ?_)
          ·
            refine lv_iload_n hx hb dX2_greater_51 rfl (lv_at hl 0 rfl) ?_
            refine wd_iret hx hb hr hlocks hW hS dX2_greater_52 ?_
            exact ⟨by first | (simp [j_gr, c_3, c_16, c_23, c_30, c_42]; done) | (simp only [j_gr, i_le]; simp [c_3, c_16, c_23, c_30, c_42]; done) | (exfalso; simp_all; done) | rfl, rfl⟩
          ·
            refine lv_sipush (v := 376) hx hb dX2_greater_45 (by decide) ?_
            refine lv_goto (tgt := 52) hx hb dX2_greater_48 (by decide) ?_
            refine wd_iret hx hb hr hlocks hW hS dX2_greater_52 ?_
            exact ⟨by first | (simp [j_gr, c_3, c_16, c_23, c_30, c_42]; done) | (simp only [j_gr, i_le]; simp [c_3, c_16, c_23, c_30, c_42]; done) | (exfalso; simp_all; done) | rfl, rfl⟩
        ·
          refine lv_iload_n hx hb dX2_greater_33 rfl (lv_at hl 0 rfl) ?_
          refine lv_bipush (v := 32) hx hb dX2_greater_34 (by decide) ?_
          refine lv_isub hx hb dX2_greater_36 ?_
          refine wd_iret hx hb hr hlocks hW hS dX2_greater_37 ?_
          exact ⟨by first | (simp [j_gr, c_3, c_16, c_23, c_30]; done) | (simp only [j_gr, i_le]; simp [c_3, c_16, c_23, c_30]; done) | (exfalso; simp_all; done) | rfl, rfl⟩
  ·
    refine lv_iload_n hx hb dX2_greater_6 rfl (lv_at hl 0 rfl) ?_
    refine lv_bipush (v := 122) hx hb dX2_greater_7 (by decide) ?_
    refine lv_icmp_le (tgt := 33) hx hb dX2_greater_9 (by decide) (fun c_9 => ?_) (fun c_9 => ?_)
    ·
      simp only [i_le, Decidable.not_not] at c_9
      refine lv_iload_n hx hb dX2_greater_33 rfl (lv_at hl 0 rfl) ?_
      refine lv_bipush (v := 32) hx hb dX2_greater_34 (by decide) ?_
      refine lv_isub hx hb dX2_greater_36 ?_
      refine wd_iret hx hb hr hlocks hW hS dX2_greater_37 ?_
      exact ⟨by first | (simp [j_gr, c_3, c_9]; done) | (simp only [j_gr, i_le]; simp [c_3, c_9]; done) | (exfalso; simp_all; done) | rfl, rfl⟩
    ·
      simp only [i_le, Decidable.not_not] at c_9
      refine lv_iload_n hx hb dX2_greater_12 rfl (lv_at hl 0 rfl) ?_
      refine lv_sipush (v := 224) hx hb dX2_greater_13 (by decide) ?_
      refine lv_icmp_lt (tgt := 38) hx hb dX2_greater_16 (by decide) (fun c_16 => ?_) (fun c_16 => ?_)
      ·
        refine lv_iload_n hx hb dX2_greater_38 rfl (lv_at hl 0 rfl) ?_
        refine lv_sipush (v := 255) hx hb dX2_greater_39 (by decide) ?_
        refine lv_icmp_ne (tgt := 51) hx hb dX2_greater_42 (by decide) (fun c_42 => ?_) (fun c_42 => ?_)
        ·
          refine lv_iload_n hx hb dX2_greater_51 rfl (lv_at hl 0 rfl) ?_
          refine wd_iret hx hb hr hlocks hW hS dX2_greater_52 ?_
          exact ⟨by first | (simp [j_gr, c_3, c_9, c_16, c_42]; done) | (simp only [j_gr, i_le]; simp [c_3, c_9, c_16, c_42]; done) | (exfalso; simp_all; done) | rfl, rfl⟩
        ·
          refine lv_sipush (v := 376) hx hb dX2_greater_45 (by decide) ?_
          refine lv_goto (tgt := 52) hx hb dX2_greater_48 (by decide) ?_
          refine wd_iret hx hb hr hlocks hW hS dX2_greater_52 ?_
          exact ⟨by first | (simp [j_gr, c_3, c_9, c_16, c_42]; done) | (simp only [j_gr, i_le]; simp [c_3, c_9, c_16, c_42]; done) | (exfalso; simp_all; done) | rfl, rfl⟩
      ·
        refine lv_iload_n hx hb dX2_greater_19 rfl (lv_at hl 0 rfl) ?_
        refine lv_sipush (v := 254) hx hb dX2_greater_20 (by decide) ?_
        refine lv_icmp_gt (tgt := 38) hx hb dX2_greater_23 (by decide) (fun c_23 => ?_) (fun c_23 => ?_)
        ·
          refine lv_iload_n hx hb dX2_greater_38 rfl (lv_at hl 0 rfl) ?_
          refine lv_sipush (v := 255) hx hb dX2_greater_39 (by decide) ?_
          refine lv_icmp_ne (tgt := 51) hx hb dX2_greater_42 (by decide) (fun c_42 => ?_) (fun c_42 => ?_)
          ·
            refine lv_iload_n hx hb dX2_greater_51 rfl (lv_at hl 0 rfl) ?_
            refine wd_iret hx hb hr hlocks hW hS dX2_greater_52 ?_
            exact ⟨by first | (simp [j_gr, c_3, c_9, c_16, c_23, c_42]; done) | (simp only [j_gr, i_le]; simp [c_3, c_9, c_16, c_23, c_42]; done) | (exfalso; simp_all; done) | rfl, rfl⟩
          ·
            refine lv_sipush (v := 376) hx hb dX2_greater_45 (by decide) ?_
            refine lv_goto (tgt := 52) hx hb dX2_greater_48 (by decide) ?_
            refine wd_iret hx hb hr hlocks hW hS dX2_greater_52 ?_
            exact ⟨by first | (simp [j_gr, c_3, c_9, c_16, c_23, c_42]; done) | (simp only [j_gr, i_le]; simp [c_3, c_9, c_16, c_23, c_42]; done) | (exfalso; simp_all; done) | rfl, rfl⟩
        ·
          refine lv_iload_n hx hb dX2_greater_26 rfl (lv_at hl 0 rfl) ?_
          refine lv_sipush (v := 247) hx hb dX2_greater_27 (by decide) ?_
          refine lv_icmp_eq (tgt := 38) hx hb dX2_greater_30 (by decide) (fun c_30 => ?_) (fun c_30 => ?_)
          ·
            refine lv_iload_n hx hb dX2_greater_38 rfl (lv_at hl 0 rfl) ?_
            refine lv_sipush (v := 255) hx hb dX2_greater_39 (by decide) ?_
            refine lv_icmp_ne (tgt := 51) hx hb dX2_greater_42 (by decide) (fun c_42 => ?_) (fun c_42 => ?_)
            ·
              refine lv_iload_n hx hb dX2_greater_51 rfl (lv_at hl 0 rfl) ?_
              refine wd_iret hx hb hr hlocks hW hS dX2_greater_52 ?_
              exact ⟨by first | (simp [j_gr, c_3, c_9, c_16, c_23, c_30, c_42]; done) | (simp only [j_gr, i_le]; simp [c_3, c_9, c_16, c_23, c_30, c_42]; done) | (exfalso; simp_all; done) | rfl, rfl⟩
            ·
              refine lv_sipush (v := 376) hx hb dX2_greater_45 (by decide) ?_
              refine lv_goto (tgt := 52) hx hb dX2_greater_48 (by decide) ?_
              refine wd_iret hx hb hr hlocks hW hS dX2_greater_52 ?_
              exact ⟨by first | (simp [j_gr, c_3, c_9, c_16, c_23, c_30, c_42]; done) | (simp only [j_gr, i_le]; simp [c_3, c_9, c_16, c_23, c_30, c_42]; done) | (exfalso; simp_all; done) | rfl, rfl⟩
          ·
            refine lv_iload_n hx hb dX2_greater_33 rfl (lv_at hl 0 rfl) ?_
            refine lv_bipush (v := 32) hx hb dX2_greater_34 (by decide) ?_
            refine lv_isub hx hb dX2_greater_36 ?_
            refine wd_iret hx hb hr hlocks hW hS dX2_greater_37 ?_
            exact ⟨by first | (simp [j_gr, c_3, c_9, c_16, c_23, c_30]; done) | (simp only [j_gr, i_le]; simp [c_3, c_9, c_16, c_23, c_30]; done) | (exfalso; simp_all; done) | rfl, rfl⟩
set_option maxHeartbeats 4000000 in
set_option maxRecDepth 100000 in
theorem k_X2_lesser (l : Launch) (D : va_G) (cI cT : ClassId) (w : Wd) (sz : Nat) (p : Int32) : wd_Mi l D vwCl (gK D cI cT) yX2_lesser wsX2_lesser (wd_rm 0 0 0) [.int p] w sz (fun r w' => r = j_le p ∧ w' = w) := by
  refine wd_met (cc := cX2_lesser) (maxL := 1) (ret := (some .int)) (by decide) rfl (Nat.le_of_ble_eq_true rfl) ?_
  intro pg ev sg mi bl mt cde ls C0 hsz hK hW hl
  obtain ⟨hx, hb, hr, hml, hown, hts, hlocks, hnm⟩ := C0
  subst hsz
  have hown : sg.vm.findClass RX2 = some mi.cls := hown
  have hS : va_S (wd_A w sg.heap.size) sg.heap sg.heap [] := va_S.rf
  have hA : ∀ q, sg.heap.size ≤ q → wd_A w sg.heap.size q := fun q h => Or.inr h
  have hl : lv_has ls 1 [(0, .int p)] := hl
  refine lv_iload_n hx hb dX2_lesser_0 rfl (lv_at hl 0 rfl) ?_
  refine lv_bipush (v := 65) hx hb dX2_lesser_1 (by decide) ?_
  refine lv_icmp_lt (tgt := 12) hx hb dX2_lesser_3 (by decide) (fun c_3 => ?_) (fun c_3 => ?_)
  ·
    refine lv_iload_n hx hb dX2_lesser_12 rfl (lv_at hl 0 rfl) ?_
    refine lv_sipush (v := 192) hx hb dX2_lesser_13 (by decide) ?_
    refine lv_icmp_lt (tgt := 38) hx hb dX2_lesser_16 (by decide) (fun c_16 => ?_) (fun c_16 => ?_)
    ·
      refine lv_iload_n hx hb dX2_lesser_38 rfl (lv_at hl 0 rfl) ?_
      refine lv_sipush (v := 376) hx hb dX2_lesser_39 (by decide) ?_
      refine lv_icmp_ne (tgt := 51) hx hb dX2_lesser_42 (by decide) (fun c_42 => ?_) (fun c_42 => ?_)
      ·
        refine lv_iload_n hx hb dX2_lesser_51 rfl (lv_at hl 0 rfl) ?_
        refine wd_iret hx hb hr hlocks hW hS dX2_lesser_52 ?_
        exact ⟨by first | (simp [j_le, c_3, c_16, c_42]; done) | (simp only [j_le, i_le]; simp [c_3, c_16, c_42]; done) | (exfalso; simp_all; done) | rfl, rfl⟩
      ·
        refine lv_sipush (v := 255) hx hb dX2_lesser_45 (by decide) ?_
        refine lv_goto (tgt := 52) hx hb dX2_lesser_48 (by decide) ?_
        refine wd_iret hx hb hr hlocks hW hS dX2_lesser_52 ?_
        exact ⟨by first | (simp [j_le, c_3, c_16, c_42]; done) | (simp only [j_le, i_le]; simp [c_3, c_16, c_42]; done) | (exfalso; simp_all; done) | rfl, rfl⟩
    ·
      refine lv_iload_n hx hb dX2_lesser_19 rfl (lv_at hl 0 rfl) ?_
      refine lv_sipush (v := 222) hx hb dX2_lesser_20 (by decide) ?_
      refine lv_icmp_gt (tgt := 38) hx hb dX2_lesser_23 (by decide) (fun c_23 => ?_) (fun c_23 => ?_)
      ·
        refine lv_iload_n hx hb dX2_lesser_38 rfl (lv_at hl 0 rfl) ?_
        refine lv_sipush (v := 376) hx hb dX2_lesser_39 (by decide) ?_
        refine lv_icmp_ne (tgt := 51) hx hb dX2_lesser_42 (by decide) (fun c_42 => ?_) (fun c_42 => ?_)
        ·
          refine lv_iload_n hx hb dX2_lesser_51 rfl (lv_at hl 0 rfl) ?_
          refine wd_iret hx hb hr hlocks hW hS dX2_lesser_52 ?_
          exact ⟨by first | (simp [j_le, c_3, c_16, c_23, c_42]; done) | (simp only [j_le, i_le]; simp [c_3, c_16, c_23, c_42]; done) | (exfalso; simp_all; done) | rfl, rfl⟩
        ·
          refine lv_sipush (v := 255) hx hb dX2_lesser_45 (by decide) ?_
          refine lv_goto (tgt := 52) hx hb dX2_lesser_48 (by decide) ?_
          refine wd_iret hx hb hr hlocks hW hS dX2_lesser_52 ?_
          exact ⟨by first | (simp [j_le, c_3, c_16, c_23, c_42]; done) | (simp only [j_le, i_le]; simp [c_3, c_16, c_23, c_42]; done) | (exfalso; simp_all; done) | rfl, rfl⟩
      ·
        refine lv_iload_n hx hb dX2_lesser_26 rfl (lv_at hl 0 rfl) ?_
        refine lv_sipush (v := 215) hx hb dX2_lesser_27 (by decide) ?_
        refine lv_icmp_eq (tgt := 38) hx hb dX2_lesser_30 (by decide) (fun c_30 => ?_) (fun c_30 => ?_)
        ·
          refine lv_iload_n hx hb dX2_lesser_38 rfl (lv_at hl 0 rfl) ?_
          refine lv_sipush (v := 376) hx hb dX2_lesser_39 (by decide) ?_
          refine lv_icmp_ne (tgt := 51) hx hb dX2_lesser_42 (by decide) (fun c_42 => ?_) (fun c_42 => ?_)
          ·
            refine lv_iload_n hx hb dX2_lesser_51 rfl (lv_at hl 0 rfl) ?_
            refine wd_iret hx hb hr hlocks hW hS dX2_lesser_52 ?_
            exact ⟨by first | (simp [j_le, c_3, c_16, c_23, c_30, c_42]; done) | (simp only [j_le, i_le]; simp [c_3, c_16, c_23, c_30, c_42]; done) | (exfalso; simp_all; done) | rfl, rfl⟩
          ·
            refine lv_sipush (v := 255) hx hb dX2_lesser_45 (by decide) ?_
            refine lv_goto (tgt := 52) hx hb dX2_lesser_48 (by decide) ?_
            refine wd_iret hx hb hr hlocks hW hS dX2_lesser_52 ?_
            exact ⟨by first | (simp [j_le, c_3, c_16, c_23, c_30, c_42]; done) | (simp only [j_le, i_le]; simp [c_3, c_16, c_23, c_30, c_42]; done) | (exfalso; simp_all; done) | rfl, rfl⟩
        ·
          refine lv_iload_n hx hb dX2_lesser_33 rfl (lv_at hl 0 rfl) ?_
          refine lv_bipush (v := 32) hx hb dX2_lesser_34 (by decide) ?_
          refine lv_iadd hx hb dX2_lesser_36 ?_
          refine wd_iret hx hb hr hlocks hW hS dX2_lesser_37 ?_
          exact ⟨by first | (simp [j_le, c_3, c_16, c_23, c_30]; done) | (simp only [j_le, i_le]; simp [c_3, c_16, c_23, c_30]; done) | (exfalso; simp_all; done) | rfl, rfl⟩
  ·
    refine lv_iload_n hx hb dX2_lesser_6 rfl (lv_at hl 0 rfl) ?_
    refine lv_bipush (v := 90) hx hb dX2_lesser_7 (by decide) ?_
    refine lv_icmp_le (tgt := 33) hx hb dX2_lesser_9 (by decide) (fun c_9 => ?_) (fun c_9 => ?_)
    ·
      simp only [i_le, Decidable.not_not] at c_9
      refine lv_iload_n hx hb dX2_lesser_33 rfl (lv_at hl 0 rfl) ?_
      refine lv_bipush (v := 32) hx hb dX2_lesser_34 (by decide) ?_
      refine lv_iadd hx hb dX2_lesser_36 ?_
      refine wd_iret hx hb hr hlocks hW hS dX2_lesser_37 ?_
      exact ⟨by first | (simp [j_le, c_3, c_9]; done) | (simp only [j_le, i_le]; simp [c_3, c_9]; done) | (exfalso; simp_all; done) | rfl, rfl⟩
    ·
      simp only [i_le, Decidable.not_not] at c_9
      refine lv_iload_n hx hb dX2_lesser_12 rfl (lv_at hl 0 rfl) ?_
      refine lv_sipush (v := 192) hx hb dX2_lesser_13 (by decide) ?_
      refine lv_icmp_lt (tgt := 38) hx hb dX2_lesser_16 (by decide) (fun c_16 => ?_) (fun c_16 => ?_)
      ·
        refine lv_iload_n hx hb dX2_lesser_38 rfl (lv_at hl 0 rfl) ?_
        refine lv_sipush (v := 376) hx hb dX2_lesser_39 (by decide) ?_
        refine lv_icmp_ne (tgt := 51) hx hb dX2_lesser_42 (by decide) (fun c_42 => ?_) (fun c_42 => ?_)
        ·
          refine lv_iload_n hx hb dX2_lesser_51 rfl (lv_at hl 0 rfl) ?_
          refine wd_iret hx hb hr hlocks hW hS dX2_lesser_52 ?_
          exact ⟨by first | (simp [j_le, c_3, c_9, c_16, c_42]; done) | (simp only [j_le, i_le]; simp [c_3, c_9, c_16, c_42]; done) | (exfalso; simp_all; done) | rfl, rfl⟩
        ·
          refine lv_sipush (v := 255) hx hb dX2_lesser_45 (by decide) ?_
          refine lv_goto (tgt := 52) hx hb dX2_lesser_48 (by decide) ?_
          refine wd_iret hx hb hr hlocks hW hS dX2_lesser_52 ?_
          exact ⟨by first | (simp [j_le, c_3, c_9, c_16, c_42]; done) | (simp only [j_le, i_le]; simp [c_3, c_9, c_16, c_42]; done) | (exfalso; simp_all; done) | rfl, rfl⟩
      ·
        refine lv_iload_n hx hb dX2_lesser_19 rfl (lv_at hl 0 rfl) ?_
        refine lv_sipush (v := 222) hx hb dX2_lesser_20 (by decide) ?_
        refine lv_icmp_gt (tgt := 38) hx hb dX2_lesser_23 (by decide) (fun c_23 => ?_) (fun c_23 => ?_)
        ·
          refine lv_iload_n hx hb dX2_lesser_38 rfl (lv_at hl 0 rfl) ?_
          refine lv_sipush (v := 376) hx hb dX2_lesser_39 (by decide) ?_
          refine lv_icmp_ne (tgt := 51) hx hb dX2_lesser_42 (by decide) (fun c_42 => ?_) (fun c_42 => ?_)
          ·
            refine lv_iload_n hx hb dX2_lesser_51 rfl (lv_at hl 0 rfl) ?_
            refine wd_iret hx hb hr hlocks hW hS dX2_lesser_52 ?_
            exact ⟨by first | (simp [j_le, c_3, c_9, c_16, c_23, c_42]; done) | (simp only [j_le, i_le]; simp [c_3, c_9, c_16, c_23, c_42]; done) | (exfalso; simp_all; done) | rfl, rfl⟩
          ·
            refine lv_sipush (v := 255) hx hb dX2_lesser_45 (by decide) ?_
            refine lv_goto (tgt := 52) hx hb dX2_lesser_48 (by decide) ?_
            refine wd_iret hx hb hr hlocks hW hS dX2_lesser_52 ?_
            exact ⟨by first | (simp [j_le, c_3, c_9, c_16, c_23, c_42]; done) | (simp only [j_le, i_le]; simp [c_3, c_9, c_16, c_23, c_42]; done) | (exfalso; simp_all; done) | rfl, rfl⟩
        ·
          refine lv_iload_n hx hb dX2_lesser_26 rfl (lv_at hl 0 rfl) ?_
          refine lv_sipush (v := 215) hx hb dX2_lesser_27 (by decide) ?_
          refine lv_icmp_eq (tgt := 38) hx hb dX2_lesser_30 (by decide) (fun c_30 => ?_) (fun c_30 => ?_)
          ·
            refine lv_iload_n hx hb dX2_lesser_38 rfl (lv_at hl 0 rfl) ?_
            refine lv_sipush (v := 376) hx hb dX2_lesser_39 (by decide) ?_
            refine lv_icmp_ne (tgt := 51) hx hb dX2_lesser_42 (by decide) (fun c_42 => ?_) (fun c_42 => ?_)
            ·
              refine lv_iload_n hx hb dX2_lesser_51 rfl (lv_at hl 0 rfl) ?_
              refine wd_iret hx hb hr hlocks hW hS dX2_lesser_52 ?_
              exact ⟨by first | (simp [j_le, c_3, c_9, c_16, c_23, c_30, c_42]; done) | (simp only [j_le, i_le]; simp [c_3, c_9, c_16, c_23, c_30, c_42]; done) | (exfalso; simp_all; done) | rfl, rfl⟩
            ·
              refine lv_sipush (v := 255) hx hb dX2_lesser_45 (by decide) ?_
              refine lv_goto (tgt := 52) hx hb dX2_lesser_48 (by decide) ?_
              refine wd_iret hx hb hr hlocks hW hS dX2_lesser_52 ?_
              exact ⟨by first | (simp [j_le, c_3, c_9, c_16, c_23, c_30, c_42]; done) | (simp only [j_le, i_le]; simp [c_3, c_9, c_16, c_23, c_30, c_42]; done) | (exfalso; simp_all; done) | rfl, rfl⟩
          ·
            refine lv_iload_n hx hb dX2_lesser_33 rfl (lv_at hl 0 rfl) ?_
            refine lv_bipush (v := 32) hx hb dX2_lesser_34 (by decide) ?_
            refine lv_iadd hx hb dX2_lesser_36 ?_
            refine wd_iret hx hb hr hlocks hW hS dX2_lesser_37 ?_
            exact ⟨by first | (simp [j_le, c_3, c_9, c_16, c_23, c_30]; done) | (simp only [j_le, i_le]; simp [c_3, c_9, c_16, c_23, c_30]; done) | (exfalso; simp_all; done) | rfl, rfl⟩
