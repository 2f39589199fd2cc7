set_option maxHeartbeats 4000000 in
set_option maxRecDepth 100000 in
theorem k_X3_code (l : Launch) (D : va_G) (cI cT : ClassId) (w : Wd) (sz : Nat) (m : Nat) (cd : Int32) (pl : Int32) (df : List Int32) (tx : Nat → Option Nat) (kp : List Nat) (rs : Rws) (hwf : WF (cd, pl, df, tx, kp, rs)) (hI : InvR cI m (cd, pl, df, tx, kp, rs) w) : wd_Mi l D vwCl (gK D cI cT) yX3_code wsX3_code (wd_rm 0 0 0) [.ref m] w sz (fun r w' => r = (s_code (cd, pl, df, tx, kp, rs)).1 ∧ InvR cI m (s_code (cd, pl, df, tx, kp, rs)).2 w') := by
  refine wd_met (cc := cX3_code) (maxL := 1) (ret := (some .int)) (by decide) rfl (Nat.le_of_ble_eq_true rfl) ?_
  intro pg ev sg mi bl mt cde ls C0 hsz hK hW hl
  obtain ⟨hx, hb, hr, hml, hown, hts, hlocks, hnm⟩ := C0
  subst hsz
  have hown : sg.vm.findClass RX3 = some mi.cls := hown
  have hS : va_S (wd_A w sg.heap.size) sg.heap sg.heap [] := va_S.rf
  have hA : ∀ q, sg.heap.size ≤ q → wd_A w sg.heap.size q := fun q h => Or.inr h
  have hl : lv_has ls 1 [(0, .ref m)] := hl
  obtain ⟨A, fI, XD, XP, XU, XO, XB, hR, hdf, hit⟩ := hI
  dsimp only at hR hdf hit
  have h10 : ∀ t, 10 ≤ t → tx t = none := hwf.2.1
  have hkp : kp.length ≤ 12 := hwf.2.2.1
  have hlv : ∀ t r, tx t = some r → r < 24 := fun t r h => (hwf.2.2.2.1 r (Or.inl ⟨t, h⟩)).1
  have hok : ∀ t r, tx t = some r → rOK (rs r) := fun t r h => (hwf.2.2.2.1 r (Or.inl ⟨t, h⟩)).2
  have hk24 : ∀ r ∈ kp, r < 24 := fun r h => (hwf.2.2.2.1 r (Or.inr h)).1
  have hdl : df.length = XD.2 := by rw [← hdf, rl_len]
  have hd60 : df.length ≤ 60 := hwf.1.1
  refine lv_aload_n hx hb dX3_code_0 rfl (lv_at hl 0 rfl) ?_
  refine wd_get (ci := 3) (v := .int cd) (C := RX3) (T := TX3) (N := 18) hx hb hts (by decide +kernel) hown hK.1 hW hR.1 rfl 8 (by decide) (hts (.fieldLink RX3 53 "CharRowsModel" "code" "I") (by decide +kernel)) (fun _ h9 => h9) rfl dX3_code_1 ?_
  refine wd_iret hx hb hr hlocks hW hS dX3_code_4 ?_
  have e9 : s_code (cd, pl, df, tx, kp, rs) = (cd, cd, pl, df, tx, kp, rs) := by simp only [s_code]
  show _ = (s_code (cd, pl, df, tx, kp, rs)).1 ∧ InvR cI m (s_code (cd, pl, df, tx, kp, rs)).2 _
  rw [e9]
  exact ⟨rfl, A, fI, XD, XP, XU, XO, XB, hR, hdf, hit⟩
set_option maxHeartbeats 4000000 in
set_option maxRecDepth 100000 in
theorem k_X3_place (l : Launch) (D : va_G) (cI cT : ClassId) (w : Wd) (sz : Nat) (m : Nat) (cd : Int32) (pl : Int32) (df : List Int32) (tx : Nat → Option Nat) (kp : List Nat) (rs : Rws) (hwf : WF (cd, pl, df, tx, kp, rs)) (hI : InvR cI m (cd, pl, df, tx, kp, rs) w) : wd_Mi l D vwCl (gK D cI cT) yX3_place wsX3_place (wd_rm 0 0 0) [.ref m] w sz (fun r w' => r = (s_place (cd, pl, df, tx, kp, rs)).1 ∧ InvR cI m (s_place (cd, pl, df, tx, kp, rs)).2 w') := by
  refine wd_met (cc := cX3_place) (maxL := 1) (ret := (some .int)) (by decide) rfl (Nat.le_of_ble_eq_true rfl) ?_
  intro pg ev sg mi bl mt cde ls C0 hsz hK hW hl
  obtain ⟨hx, hb, hr, hml, hown, hts, hlocks, hnm⟩ := C0
  subst hsz
  have hown : sg.vm.findClass RX3 = some mi.cls := hown
  have hS : va_S (wd_A w sg.heap.size) sg.heap sg.heap [] := va_S.rf
  have hA : ∀ q, sg.heap.size ≤ q → wd_A w sg.heap.size q := fun q h => Or.inr h
  have hl : lv_has ls 1 [(0, .ref m)] := hl
  obtain ⟨A, fI, XD, XP, XU, XO, XB, hR, hdf, hit⟩ := hI
  dsimp only at hR hdf hit
  have h10 : ∀ t, 10 ≤ t → tx t = none := hwf.2.1
  have hkp : kp.length ≤ 12 := hwf.2.2.1
  have hlv : ∀ t r, tx t = some r → r < 24 := fun t r h => (hwf.2.2.2.1 r (Or.inl ⟨t, h⟩)).1
  have hok : ∀ t r, tx t = some r → rOK (rs r) := fun t r h => (hwf.2.2.2.1 r (Or.inl ⟨t, h⟩)).2
  have hk24 : ∀ r ∈ kp, r < 24 := fun r h => (hwf.2.2.2.1 r (Or.inr h)).1
  have hdl : df.length = XD.2 := by rw [← hdf, rl_len]
  have hd60 : df.length ≤ 60 := hwf.1.1
  refine lv_aload_n hx hb dX3_place_0 rfl (lv_at hl 0 rfl) ?_
  refine wd_get (ci := 3) (v := .int pl) (C := RX3) (T := TX3) (N := 18) hx hb hts (by decide +kernel) hown hK.1 hW hR.1 rfl 9 (by decide) (hts (.fieldLink RX3 28 "CharRowsModel" "broken" "I") (by decide +kernel)) (fun _ h9 => h9) rfl dX3_place_1 ?_
  refine wd_iret hx hb hr hlocks hW hS dX3_place_4 ?_
  have e9 : s_place (cd, pl, df, tx, kp, rs) = (pl, cd, pl, df, tx, kp, rs) := by simp only [s_place]
  show _ = (s_place (cd, pl, df, tx, kp, rs)).1 ∧ InvR cI m (s_place (cd, pl, df, tx, kp, rs)).2 _
  rw [e9]
  exact ⟨rfl, A, fI, XD, XP, XU, XO, XB, hR, hdf, hit⟩
set_option maxHeartbeats 4000000 in
set_option maxRecDepth 100000 in
theorem k_X3_kept (l : Launch) (D : va_G) (cI cT : ClassId) (w : Wd) (sz : Nat) (m : Nat) (cd : Int32) (pl : Int32) (df : List Int32) (tx : Nat → Option Nat) (kp : List Nat) (rs : Rws) (hwf : WF (cd, pl, df, tx, kp, rs)) (hI : InvR cI m (cd, pl, df, tx, kp, rs) w) : wd_Mi l D vwCl (gK D cI cT) yX3_kept wsX3_kept (wd_rm 0 0 0) [.ref m] w sz (fun r w' => r = (s_kept (cd, pl, df, tx, kp, rs)).1 ∧ InvR cI m (s_kept (cd, pl, df, tx, kp, rs)).2 w') := by
  refine wd_met (cc := cX3_kept) (maxL := 1) (ret := (some .int)) (by decide) rfl (Nat.le_of_ble_eq_true rfl) ?_
  intro pg ev sg mi bl mt cde ls C0 hsz hK hW hl
  obtain ⟨hx, hb, hr, hml, hown, hts, hlocks, hnm⟩ := C0
  subst hsz
  have hown : sg.vm.findClass RX3 = some mi.cls := hown
  have hS : va_S (wd_A w sg.heap.size) sg.heap sg.heap [] := va_S.rf
  have hA : ∀ q, sg.heap.size ≤ q → wd_A w sg.heap.size q := fun q h => Or.inr h
  have hl : lv_has ls 1 [(0, .ref m)] := hl
  obtain ⟨A, fI, XD, XP, XU, XO, XB, hR, hdf, hit⟩ := hI
  dsimp only at hR hdf hit
  have h10 : ∀ t, 10 ≤ t → tx t = none := hwf.2.1
  have hkp : kp.length ≤ 12 := hwf.2.2.1
  have hlv : ∀ t r, tx t = some r → r < 24 := fun t r h => (hwf.2.2.2.1 r (Or.inl ⟨t, h⟩)).1
  have hok : ∀ t r, tx t = some r → rOK (rs r) := fun t r h => (hwf.2.2.2.1 r (Or.inl ⟨t, h⟩)).2
  have hk24 : ∀ r ∈ kp, r < 24 := fun r h => (hwf.2.2.2.1 r (Or.inr h)).1
  have hdl : df.length = XD.2 := by rw [← hdf, rl_len]
  have hd60 : df.length ≤ 60 := hwf.1.1
  refine lv_aload_n hx hb dX3_kept_0 rfl (lv_at hl 0 rfl) ?_
  refine wd_get (ci := 3) (v := .int (nI kp.length)) (C := RX3) (T := TX3) (N := 18) hx hb hts (by decide +kernel) hown hK.1 hW hR.1 rfl 2 (by decide) (hts (.fieldLink RX3 60 "CharRowsModel" "kept" "I") (by decide +kernel)) (fun _ h9 => h9) rfl dX3_kept_1 ?_
  refine wd_iret hx hb hr hlocks hW hS dX3_kept_4 ?_
  have e9 : s_kept (cd, pl, df, tx, kp, rs) = (nI kp.length, cd, pl, df, tx, kp, rs) := by simp only [s_kept]
  show _ = (s_kept (cd, pl, df, tx, kp, rs)).1 ∧ InvR cI m (s_kept (cd, pl, df, tx, kp, rs)).2 _
  rw [e9]
  exact ⟨rfl, A, fI, XD, XP, XU, XO, XB, hR, hdf, hit⟩
set_option maxHeartbeats 4000000 in
set_option maxRecDepth 100000 in
theorem k_X3_fresh (l : Launch) (D : va_G) (cI cT : ClassId) (w : Wd) (sz : Nat) (m : Nat) (cd : Int32) (pl : Int32) (df : List Int32) (tx : Nat → Option Nat) (kp : List Nat) (rs : Rws) (hwf : WF (cd, pl, df, tx, kp, rs)) (hI : InvR cI m (cd, pl, df, tx, kp, rs) w) : wd_Mi l D vwCl (gK D cI cT) yX3_fresh wsX3_fresh (wd_rm 0 0 0) [.ref m] w sz (fun r w' => r = (s_fresh (cd, pl, df, tx, kp, rs)).1 ∧ InvR cI m (s_fresh (cd, pl, df, tx, kp, rs)).2 w') := by
  refine wd_met (cc := cX3_fresh) (maxL := 2) (ret := (some .int)) (by decide) rfl (Nat.le_of_ble_eq_true rfl) ?_
  intro pg ev sg mi bl mt cde ls C0 hsz hK hW hl
  obtain ⟨hx, hb, hr, hml, hown, hts, hlocks, hnm⟩ := C0
  subst hsz
  have hown : sg.vm.findClass RX3 = some mi.cls := hown
  have hS : va_S (wd_A w sg.heap.size) sg.heap sg.heap [] := va_S.rf
  have hA : ∀ q, sg.heap.size ≤ q → wd_A w sg.heap.size q := fun q h => Or.inr h
  have hl : lv_has ls 2 [(0, .ref m)] := hl
  obtain ⟨A, fI, XD, XP, XU, XO, XB, hR, hdf, hit⟩ := hI
  dsimp only at hR hdf hit
  have h10 : ∀ t, 10 ≤ t → tx t = none := hwf.2.1
  have hkp : kp.length ≤ 12 := hwf.2.2.1
  have hlv : ∀ t r, tx t = some r → r < 24 := fun t r h => (hwf.2.2.2.1 r (Or.inl ⟨t, h⟩)).1
  have hok : ∀ t r, tx t = some r → rOK (rs r) := fun t r h => (hwf.2.2.2.1 r (Or.inl ⟨t, h⟩)).2
  have hk24 : ∀ r ∈ kp, r < 24 := fun r h => (hwf.2.2.2.1 r (Or.inr h)).1
  have hdl : df.length = XD.2 := by rw [← hdf, rl_len]
  have hd60 : df.length ≤ 60 := hwf.1.1
  refine lv_aload_n hx hb dX3_fresh_0 rfl (lv_at hl 0 rfl) ?_
  refine wd_get (ci := 3) (v := .int (nI XD.2)) (C := RX3) (T := TX3) (N := 18) hx hb hts (by decide +kernel) hown hK.1 hW hR.1 rfl 7 (by decide) (hts (.fieldLink RX3 108 "CharRowsModel" "drafted" "I") (by decide +kernel)) (fun _ h9 => h9) rfl dX3_fresh_1 ?_
  refine lv_istore_n (lv' := [(1, .int (nI XD.2)), (0, .ref m)]) hx hb dX3_fresh_4 rfl hl (by decide) rfl (fun ls hl => ?_)
  refine lv_aload_n hx hb dX3_fresh_5 rfl (lv_at hl 1 rfl) ?_
  refine lv_iconst (v := 0) hx hb dX3_fresh_6 (by decide) ?_
  refine wd_put (ci := 3) (v := .int 0) (ty := .int) (C := RX3) (T := TX3) (N := 18) hx hb hts (by decide +kernel) tyX3 tyX3_ok nmX3 hown hK.1 hW hS hR.1 rfl 7 (by decide) (hts (.fieldLink RX3 108 "CharRowsModel" "drafted" "I") (by decide +kernel)) (fun _ h9 => h9) rfl (by decide +kernel) rfl rfl (Nat.le_of_ble_eq_true rfl) dX3_fresh_7 (fun H locs hW hS => ?_)
  obtain ⟨w_v1, hW, hR⟩ : ∃ w', wd_P D vwCl (wd_A w sg.heap.size) w' H ∧ rW cI m A (fun t => oI (tx t)) (kI kp) (fun r => (rs r).1) (fun r => nI (rs r).2.length) fI kp.length cd pl (XD.1, 0) XP XU XO XB w' := ⟨_, hW, hR.cXD 0⟩
  refine lv_iload_n hx hb dX3_fresh_10 rfl (lv_at hl 0 rfl) ?_
  refine wd_iret hx hb hr hlocks hW hS dX3_fresh_11 ?_
  have e9 : s_fresh (cd, pl, df, tx, kp, rs) = (nI XD.2, cd, pl, [], tx, kp, rs) := by simp only [s_fresh]; rw [hdl]
  show _ = (s_fresh (cd, pl, df, tx, kp, rs)).1 ∧ InvR cI m (s_fresh (cd, pl, df, tx, kp, rs)).2 _
  rw [e9]
  exact ⟨rfl, A, fI, (XD.1, 0), XP, XU, XO, XB, hR, rfl, hit⟩
set_option maxHeartbeats 4000000 in
set_option maxRecDepth 100000 in
theorem k_X3_sort (l : Launch) (D : va_G) (cI cT : ClassId) (w : Wd) (sz : Nat) (m : Nat) (cd : Int32) (pl : Int32) (df : List Int32) (tx : Nat → Option Nat) (kp : List Nat) (rs : Rws) (t : Int32) (hwf : WF (cd, pl, df, tx, kp, rs)) (hI : InvR cI m (cd, pl, df, tx, kp, rs) w) : wd_Mi l D vwCl (gK D cI cT) yX3_sort wsX3_sort (wd_rm 2 0 0) [.ref m, .int t] w sz (fun r w' => r = (s_sort (cd, pl, df, tx, kp, rs) t).1 ∧ InvR cI m (s_sort (cd, pl, df, tx, kp, rs) t).2 w') := by
  refine wd_met (cc := cX3_sort) (maxL := 2) (ret := (some .int)) (by decide) rfl (Nat.le_of_ble_eq_true rfl) ?_
  intro pg ev sg mi bl mt cde ls C0 hsz hK hW hl
  obtain ⟨hx, hb, hr, hml, hown, hts, hlocks, hnm⟩ := C0
  subst hsz
  have hown : sg.vm.findClass RX3 = some mi.cls := hown
  have hS : va_S (wd_A w sg.heap.size) sg.heap sg.heap [] := va_S.rf
  have hA : ∀ q, sg.heap.size ≤ q → wd_A w sg.heap.size q := fun q h => Or.inr h
  have hl : lv_has ls 2 [(0, .ref m), (1, .int t)] := hl
  obtain ⟨A, fI, XD, XP, XU, XO, XB, hR, hdf, hit⟩ := hI
  dsimp only at hR hdf hit
  have h10 : ∀ t, 10 ≤ t → tx t = none := hwf.2.1
  have hkp : kp.length ≤ 12 := hwf.2.2.1
  have hlv : ∀ t r, tx t = some r → r < 24 := fun t r h => (hwf.2.2.2.1 r (Or.inl ⟨t, h⟩)).1
  have hok : ∀ t r, tx t = some r → rOK (rs r) := fun t r h => (hwf.2.2.2.1 r (Or.inl ⟨t, h⟩)).2
  have hk24 : ∀ r ∈ kp, r < 24 := fun r h => (hwf.2.2.2.1 r (Or.inr h)).1
  have hdl : df.length = XD.2 := by rw [← hdf, rl_len]
  have hd60 : df.length ≤ 60 := hwf.1.1
  refine lv_iload_n hx hb dX3_sort_0 rfl (lv_at hl 1 rfl) ?_
  refine wd_callSi (As := [.int t]) (rest := []) (c2 := 0) (s2 := 0) ⟨hx, hb, hml, hown, hts⟩ (k_X3_isText l D cI cT w sg.heap.size t ) (va_cwS 1 hts gX3_sort_X3_isText rfl rfl rfl (by decide +kernel) ⟨Nat.le_of_ble_eq_true rfl, Nat.le_of_ble_eq_true rfl⟩) gK_ok hK hW hS hA rfl hl.1 rfl (Nat.le_of_ble_eq_true rfl) dX3_sort_1 ⟨Nat.le_of_ble_eq_true rfl, Nat.le_of_ble_eq_true rfl⟩ rfl rfl (fun r_1 w_1 H locs hp_1 hW hz hS => ?_)
  obtain ⟨q_r, q_w⟩ := hp_1
  subst r_1
  subst w_1
  refine lv_if_eq (tgt := 15) hx hb dX3_sort_4 (by decide) (fun c_4 => ?_) (fun c_4 => ?_)
  ·
    have c_4 := nt_of (j_b0 c_4)
    refine lv_ldc (v := (-2000000001)) hx hb hown (hts (.constant RX3 107 (-2000000001)) (by decide +kernel)) dX3_sort_15 ?_
    refine wd_iret hx hb hr hlocks hW hS dX3_sort_17 ?_
    have e9 : s_sort (cd, pl, df, tx, kp, rs) t = ((-2000000001), cd, pl, df, tx, kp, rs) := by simp only [s_sort, if_pos c_4, u_srt]
    show _ = (s_sort (cd, pl, df, tx, kp, rs) t).1 ∧ InvR cI m (s_sort (cd, pl, df, tx, kp, rs) t).2 _
    rw [e9]
    exact ⟨rfl, A, fI, XD, XP, XU, XO, XB, hR, hdf, hit⟩
  ·
    have c_4 := j_bn c_4
    obtain ⟨tN, htN, htE⟩ := nt_spec c_4
    subst htE
    have hcl_t : (nI tN).toNatClampNeg = tN := nI_clamp (by omega)
    refine lv_aload_n hx hb dX3_sort_7 rfl (lv_at hl 0 rfl) ?_
    refine lv_iload_n hx hb dX3_sort_8 rfl (lv_at hl 1 rfl) ?_
    refine wd_callVi (As := [.int (nI tN)]) (rest := []) (c2 := 0) (s2 := 0) ⟨hx, hb, hml, hown, hts⟩ (k_X3_sortOf l D cI cT w H.size m A (kI kp) (fun r => nI (rs r).2.length) fI kp.length cd pl XD XP XU XO XB tx rs tN hR (by omega) hlv) (cwV 1 hts gX3_sort_X3_sortOf rfl rfl rfl (by decide +kernel) ⟨Nat.le_of_ble_eq_true rfl, Nat.le_of_ble_eq_true rfl⟩) gK_ok hK hW (wd_recv (ci := 3) hK.1 hW rfl hR.1) hS hA rfl hl.1 rfl (Nat.le_of_ble_eq_true rfl) dX3_sort_9 ⟨Nat.le_of_ble_eq_true rfl, Nat.le_of_ble_eq_true rfl⟩ rfl rfl (fun r_9 w_9 H locs hp_9 hW hz hS => ?_)
    obtain ⟨q_r, q_w⟩ := hp_9
    subst r_9
    subst w_9
    cases htx_9 : tx tN with
    | none =>
      refine wd_topE (y := -1) rfl ?_
      refine lv_goto (tgt := 17) hx hb dX3_sort_12 (by decide) ?_
      refine wd_iret hx hb hr hlocks hW hS dX3_sort_17 ?_
      have e9 : s_sort (cd, pl, df, tx, kp, rs) (nI tN) = ((-1), cd, pl, df, tx, kp, rs) := by simp only [s_sort, if_neg c_4, u_srt, hcl_t, htx_9]
      show _ = (s_sort (cd, pl, df, tx, kp, rs) (nI tN)).1 ∧ InvR cI m (s_sort (cd, pl, df, tx, kp, rs) (nI tN)).2 _
      rw [e9]
      exact ⟨rfl, A, fI, XD, XP, XU, XO, XB, hR, hdf, hit⟩
    | some r_9 =>
      refine wd_topE (y := (rs r_9).1) rfl ?_
      have hr24_9 := hlv _ _ htx_9
      refine lv_goto (tgt := 17) hx hb dX3_sort_12 (by decide) ?_
      refine wd_iret hx hb hr hlocks hW hS dX3_sort_17 ?_
      have e9 : s_sort (cd, pl, df, tx, kp, rs) (nI tN) = ((rs r_9).1, cd, pl, df, tx, kp, rs) := by simp only [s_sort, if_neg c_4, u_srt, hcl_t, htx_9]
      show _ = (s_sort (cd, pl, df, tx, kp, rs) (nI tN)).1 ∧ InvR cI m (s_sort (cd, pl, df, tx, kp, rs) (nI tN)).2 _
      rw [e9]
      exact ⟨rfl, A, fI, XD, XP, XU, XO, XB, hR, hdf, hit⟩
set_option maxHeartbeats 4000000 in
set_option maxRecDepth 100000 in
theorem k_X3_length (l : Launch) (D : va_G) (cI cT : ClassId) (w : Wd) (sz : Nat) (m : Nat) (cd : Int32) (pl : Int32) (df : List Int32) (tx : Nat → Option Nat) (kp : List Nat) (rs : Rws) (t : Int32) (hwf : WF (cd, pl, df, tx, kp, rs)) (hI : InvR cI m (cd, pl, df, tx, kp, rs) w) : wd_Mi l D vwCl (gK D cI cT) yX3_length wsX3_length (wd_rm 2 0 0) [.ref m, .int t] w sz (fun r w' => r = (s_length (cd, pl, df, tx, kp, rs) t).1 ∧ InvR cI m (s_length (cd, pl, df, tx, kp, rs) t).2 w') := by
  refine wd_met (cc := cX3_length) (maxL := 2) (ret := (some .int)) (by decide) rfl (Nat.le_of_ble_eq_true rfl) ?_
  intro pg ev sg mi bl mt cde ls C0 hsz hK hW hl
  obtain ⟨hx, hb, hr, hml, hown, hts, hlocks, hnm⟩ := C0
  subst hsz
  have hown : sg.vm.findClass RX3 = some mi.cls := hown
  have hS : va_S (wd_A w sg.heap.size) sg.heap sg.heap [] := va_S.rf
  have hA : ∀ q, sg.heap.size ≤ q → wd_A w sg.heap.size q := fun q h => Or.inr h
  have hl : lv_has ls 2 [(0, .ref m), (1, .int t)] := hl
  obtain ⟨A, fI, XD, XP, XU, XO, XB, hR, hdf, hit⟩ := hI
  dsimp only at hR hdf hit
  have h10 : ∀ t, 10 ≤ t → tx t = none := hwf.2.1
  have hkp : kp.length ≤ 12 := hwf.2.2.1
  have hlv : ∀ t r, tx t = some r → r < 24 := fun t r h => (hwf.2.2.2.1 r (Or.inl ⟨t, h⟩)).1
  have hok : ∀ t r, tx t = some r → rOK (rs r) := fun t r h => (hwf.2.2.2.1 r (Or.inl ⟨t, h⟩)).2
  have hk24 : ∀ r ∈ kp, r < 24 := fun r h => (hwf.2.2.2.1 r (Or.inr h)).1
  have hdl : df.length = XD.2 := by rw [← hdf, rl_len]
  have hd60 : df.length ≤ 60 := hwf.1.1
  refine lv_iload_n hx hb dX3_length_0 rfl (lv_at hl 1 rfl) ?_
  refine wd_callSi (As := [.int t]) (rest := []) (c2 := 0) (s2 := 0) ⟨hx, hb, hml, hown, hts⟩ (k_X3_isText l D cI cT w sg.heap.size t ) (va_cwS 1 hts gX3_length_X3_isText rfl rfl rfl (by decide +kernel) ⟨Nat.le_of_ble_eq_true rfl, Nat.le_of_ble_eq_true rfl⟩) gK_ok hK hW hS hA rfl hl.1 rfl (Nat.le_of_ble_eq_true rfl) dX3_length_1 ⟨Nat.le_of_ble_eq_true rfl, Nat.le_of_ble_eq_true rfl⟩ rfl rfl (fun r_1 w_1 H locs hp_1 hW hz hS => ?_)
  obtain ⟨q_r, q_w⟩ := hp_1
  subst r_1
  subst w_1
  refine lv_if_ne (tgt := 10) hx hb dX3_length_4 (by decide) (fun c_4 => ?_) (fun c_4 => ?_)
  ·
    have c_4 := j_bn c_4
    obtain ⟨tN, htN, htE⟩ := nt_spec c_4
    subst htE
    have hcl_t : (nI tN).toNatClampNeg = tN := nI_clamp (by omega)
    refine lv_aload_n hx hb dX3_length_10 rfl (lv_at hl 0 rfl) ?_
    refine lv_iload_n hx hb dX3_length_11 rfl (lv_at hl 1 rfl) ?_
    refine wd_callVi (As := [.int (nI tN)]) (rest := []) (c2 := 0) (s2 := 0) ⟨hx, hb, hml, hown, hts⟩ (k_X3_sortOf l D cI cT w H.size m A (kI kp) (fun r => nI (rs r).2.length) fI kp.length cd pl XD XP XU XO XB tx rs tN hR (by omega) hlv) (cwV 1 hts gX3_length_X3_sortOf rfl rfl rfl (by decide +kernel) ⟨Nat.le_of_ble_eq_true rfl, Nat.le_of_ble_eq_true rfl⟩) gK_ok hK hW (wd_recv (ci := 3) hK.1 hW rfl hR.1) hS hA rfl hl.1 rfl (Nat.le_of_ble_eq_true rfl) dX3_length_12 ⟨Nat.le_of_ble_eq_true rfl, Nat.le_of_ble_eq_true rfl⟩ rfl rfl (fun r_12 w_12 H locs hp_12 hW hz hS => ?_)
    obtain ⟨q_r, q_w⟩ := hp_12
    subst r_12
    subst w_12
    cases htx_12 : tx tN with
    | none =>
      refine wd_topE (y := -1) rfl ?_
      refine lv_iconst (v := (-1)) hx hb dX3_length_15 (by decide) ?_
      refine lv_icmp_ne (tgt := 27) hx hb dX3_length_16 (by decide) (fun c_16 => ?_) (fun c_16 => ?_)
      ·
        exact absurd rfl c_16
      ·
        refine lv_aload_n hx hb dX3_length_19 rfl (lv_at hl 0 rfl) ?_
        refine lv_iconst (v := 1) hx hb dX3_length_20 (by decide) ?_
        refine wd_callVi (As := [.int 1]) (rest := []) (c2 := 0) (s2 := 0) ⟨hx, hb, hml, hown, hts⟩ (k_X3_no l D cI cT w H.size m A (fun t => oI (tx t)) (kI kp) (fun r => (rs r).1) (fun r => nI (rs r).2.length) fI kp.length cd pl XD XP XU XO XB 1 hR) (cwV 1 hts gX3_length_X3_no rfl rfl rfl (by decide +kernel) ⟨Nat.le_of_ble_eq_true rfl, Nat.le_of_ble_eq_true rfl⟩) gK_ok hK hW (wd_recv (ci := 3) hK.1 hW rfl hR.1) hS hA rfl hl.1 rfl (Nat.le_of_ble_eq_true rfl) dX3_length_21 ⟨Nat.le_of_ble_eq_true rfl, Nat.le_of_ble_eq_true rfl⟩ rfl rfl (fun r_21 w_21 H locs hp_21 hW hz hS => ?_)
        obtain ⟨q_r, hR⟩ := hp_21
        subst r_21
        refine lv_goto (tgt := 36) hx hb dX3_length_24 (by decide) ?_
        refine wd_iret hx hb hr hlocks hW hS dX3_length_36 ?_
        have e9 : s_length (cd, pl, df, tx, kp, rs) (nI tN) = (0, 1, pl, df, tx, kp, rs) := by simp only [s_length, if_neg c_4, s_w1, s_no, s_yes, hcl_t, htx_12]
        show _ = (s_length (cd, pl, df, tx, kp, rs) (nI tN)).1 ∧ InvR cI m (s_length (cd, pl, df, tx, kp, rs) (nI tN)).2 _
        rw [e9]
        exact ⟨rfl, A, fI, XD, XP, XU, XO, XB, hR, hdf, hit⟩
    | some r_12 =>
      refine wd_topE (y := (rs r_12).1) rfl ?_
      have hr24_12 := hlv _ _ htx_12
      refine lv_iconst (v := (-1)) hx hb dX3_length_15 (by decide) ?_
      refine lv_icmp_ne (tgt := 27) hx hb dX3_length_16 (by decide) (fun c_16 => ?_) (fun c_16 => ?_)
      ·
        refine lv_aload_n hx hb dX3_length_27 rfl (lv_at hl 0 rfl) ?_
        refine lv_aload_n hx hb dX3_length_28 rfl (lv_at hl 0 rfl) ?_
        refine lv_iload_n hx hb dX3_length_29 rfl (lv_at hl 1 rfl) ?_
        refine wd_callVi (As := [.int (nI tN)]) (rest := [.ref m]) (c2 := 0) (s2 := 0) ⟨hx, hb, hml, hown, hts⟩ (k_X3_manyOf l D cI cT w H.size m A (kI kp) (fun r => (rs r).1) fI kp.length cd pl XD XP XU XO XB tx rs tN r_12 hR (by omega) htx_12 hr24_12) (cwV 1 hts gX3_length_X3_manyOf rfl rfl rfl (by decide +kernel) ⟨Nat.le_of_ble_eq_true rfl, Nat.le_of_ble_eq_true rfl⟩) gK_ok hK hW (wd_recv (ci := 3) hK.1 hW rfl hR.1) hS hA rfl hl.1 rfl (Nat.le_of_ble_eq_true rfl) dX3_length_30 ⟨Nat.le_of_ble_eq_true rfl, Nat.le_of_ble_eq_true rfl⟩ rfl rfl (fun r_30 w_30 H locs hp_30 hW hz hS => ?_)
        obtain ⟨q_r, q_w⟩ := hp_30
        subst r_30
        subst w_30
        refine wd_callVi (As := [.int (nI ((rs r_12).2.length))]) (rest := []) (c2 := 0) (s2 := 0) ⟨hx, hb, hml, hown, hts⟩ (k_X3_yes l D cI cT w H.size m A (fun t => oI (tx t)) (kI kp) (fun r => (rs r).1) (fun r => nI (rs r).2.length) fI kp.length cd pl XD XP XU XO XB (nI ((rs r_12).2.length)) hR) (cwV 1 hts gX3_length_X3_yes rfl rfl rfl (by decide +kernel) ⟨Nat.le_of_ble_eq_true rfl, Nat.le_of_ble_eq_true rfl⟩) gK_ok hK hW (wd_recv (ci := 3) hK.1 hW rfl hR.1) hS hA rfl hl.1 rfl (Nat.le_of_ble_eq_true rfl) dX3_length_33 ⟨Nat.le_of_ble_eq_true rfl, Nat.le_of_ble_eq_true rfl⟩ rfl rfl (fun r_33 w_33 H locs hp_33 hW hz hS => ?_)
        obtain ⟨q_r, hR⟩ := hp_33
        subst r_33
        refine wd_iret hx hb hr hlocks hW hS dX3_length_36 ?_
        have e9 : s_length (cd, pl, df, tx, kp, rs) (nI tN) = (nI ((rs r_12).2.length), 0, pl, df, tx, kp, rs) := by simp only [s_length, if_neg c_4, s_w1, s_no, s_yes, hcl_t, htx_12]
        show _ = (s_length (cd, pl, df, tx, kp, rs) (nI tN)).1 ∧ InvR cI m (s_length (cd, pl, df, tx, kp, rs) (nI tN)).2 _
        rw [e9]
        exact ⟨rfl, A, fI, XD, XP, XU, XO, XB, hR, hdf, hit⟩
      ·
        exact absurd c_16 (hok _ _ htx_12).nm1
  ·
    have c_4 := nt_of (j_b0 c_4)
    refine lv_ldc (v := (-2000000001)) hx hb hown (hts (.constant RX3 107 (-2000000001)) (by decide +kernel)) dX3_length_7 ?_
    refine wd_iret hx hb hr hlocks hW hS dX3_length_9 ?_
    have e9 : s_length (cd, pl, df, tx, kp, rs) t = ((-2000000001), cd, pl, df, tx, kp, rs) := by simp only [s_length, if_pos c_4, s_w1, s_no, s_yes]
    show _ = (s_length (cd, pl, df, tx, kp, rs) t).1 ∧ InvR cI m (s_length (cd, pl, df, tx, kp, rs) t).2 _
    rw [e9]
    exact ⟨rfl, A, fI, XD, XP, XU, XO, XB, hR, hdf, hit⟩
set_option maxHeartbeats 4000000 in
set_option maxRecDepth 100000 in
theorem k_X3_points (l : Launch) (D : va_G) (cI cT : ClassId) (w : Wd) (sz : Nat) (m : Nat) (cd : Int32) (pl : Int32) (df : List Int32) (tx : Nat → Option Nat) (kp : List Nat) (rs : Rws) (t : Int32) (hwf : WF (cd, pl, df, tx, kp, rs)) (hI : InvR cI m (cd, pl, df, tx, kp, rs) w) : wd_Mi l D vwCl (gK D cI cT) yX3_points wsX3_points (wd_rm 4 0 0) [.ref m, .int t] w sz (fun r w' => r = (s_points (cd, pl, df, tx, kp, rs) t).1 ∧ InvR cI m (s_points (cd, pl, df, tx, kp, rs) t).2 w') := by
  refine wd_met (cc := cX3_points) (maxL := 3) (ret := (some .int)) (by decide) rfl (Nat.le_of_ble_eq_true rfl) ?_
  intro pg ev sg mi bl mt cde ls C0 hsz hK hW hl
  obtain ⟨hx, hb, hr, hml, hown, hts, hlocks, hnm⟩ := C0
  subst hsz
  have hown : sg.vm.findClass RX3 = some mi.cls := hown
  have hS : va_S (wd_A w sg.heap.size) sg.heap sg.heap [] := va_S.rf
  have hA : ∀ q, sg.heap.size ≤ q → wd_A w sg.heap.size q := fun q h => Or.inr h
  have hl : lv_has ls 3 [(0, .ref m), (1, .int t)] := hl
  obtain ⟨A, fI, XD, XP, XU, XO, XB, hR, hdf, hit⟩ := hI
  dsimp only at hR hdf hit
  have h10 : ∀ t, 10 ≤ t → tx t = none := hwf.2.1
  have hkp : kp.length ≤ 12 := hwf.2.2.1
  have hlv : ∀ t r, tx t = some r → r < 24 := fun t r h => (hwf.2.2.2.1 r (Or.inl ⟨t, h⟩)).1
  have hok : ∀ t r, tx t = some r → rOK (rs r) := fun t r h => (hwf.2.2.2.1 r (Or.inl ⟨t, h⟩)).2
  have hk24 : ∀ r ∈ kp, r < 24 := fun r h => (hwf.2.2.2.1 r (Or.inr h)).1
  have hdl : df.length = XD.2 := by rw [← hdf, rl_len]
  have hd60 : df.length ≤ 60 := hwf.1.1
  refine lv_iload_n hx hb dX3_points_0 rfl (lv_at hl 1 rfl) ?_
  refine wd_callSi (As := [.int t]) (rest := []) (c2 := 0) (s2 := 0) ⟨hx, hb, hml, hown, hts⟩ (k_X3_isText l D cI cT w sg.heap.size t ) (va_cwS 1 hts gX3_points_X3_isText rfl rfl rfl (by decide +kernel) ⟨Nat.le_of_ble_eq_true rfl, Nat.le_of_ble_eq_true rfl⟩) gK_ok hK hW hS hA rfl hl.1 rfl (Nat.le_of_ble_eq_true rfl) dX3_points_1 ⟨Nat.le_of_ble_eq_true rfl, Nat.le_of_ble_eq_true rfl⟩ rfl rfl (fun r_1 w_1 H locs hp_1 hW hz hS => ?_)
  obtain ⟨q_r, q_w⟩ := hp_1
  subst r_1
  subst w_1
  refine lv_if_ne (tgt := 10) hx hb dX3_points_4 (by decide) (fun c_4 => ?_) (fun c_4 => ?_)
  ·
    have c_4 := j_bn c_4
    obtain ⟨tN, htN, htE⟩ := nt_spec c_4
    subst htE
    have hcl_t : (nI tN).toNatClampNeg = tN := nI_clamp (by omega)
    refine lv_aload_n hx hb dX3_points_10 rfl (lv_at hl 0 rfl) ?_
    refine lv_iload_n hx hb dX3_points_11 rfl (lv_at hl 1 rfl) ?_
    refine wd_callVi (As := [.int (nI tN)]) (rest := []) (c2 := 0) (s2 := 0) ⟨hx, hb, hml, hown, hts⟩ (k_X3_wantsPoints l D cI cT w H.size m A (kI kp) (fun r => nI (rs r).2.length) fI kp.length cd pl XD XP XU XO XB tx rs tN hR (by omega) hlv hok) (cwV 1 hts gX3_points_X3_wantsPoints rfl rfl rfl (by decide +kernel) ⟨Nat.le_of_ble_eq_true rfl, Nat.le_of_ble_eq_true rfl⟩) gK_ok hK hW (wd_recv (ci := 3) hK.1 hW rfl hR.1) hS hA rfl hl.1 rfl (Nat.le_of_ble_eq_true rfl) dX3_points_12 ⟨Nat.le_of_ble_eq_true rfl, Nat.le_of_ble_eq_true rfl⟩ rfl rfl (fun r_12 w_12 H locs hp_12 hW hz hS => ?_)
    obtain ⟨q_r, q_w⟩ := hp_12
    subst r_12
    subst w_12
    cases htx_12 : tx tN with
    | none =>
      refine wd_topE (y := 1) rfl ?_
      refine lv_istore_n (lv' := [(2, .int 1), (0, .ref m), (1, .int (nI tN))]) hx hb dX3_points_15 rfl hl (by decide) rfl (fun ls hl => ?_)
      refine lv_iload_n hx hb dX3_points_16 rfl (lv_at hl 0 rfl) ?_
      refine lv_if_eq (tgt := 26) hx hb dX3_points_17 (by decide) (fun c_17 => ?_) (fun c_17 => ?_)
      ·
        exact absurd c_17 (by decide)
      ·
        refine lv_aload_n hx hb dX3_points_20 rfl (lv_at hl 1 rfl) ?_
        refine lv_iload_n hx hb dX3_points_21 rfl (lv_at hl 0 rfl) ?_
        refine wd_callVi (As := [.int 1]) (rest := []) (c2 := 0) (s2 := 0) ⟨hx, hb, hml, hown, hts⟩ (k_X3_no l D cI cT w H.size m A (fun t => oI (tx t)) (kI kp) (fun r => (rs r).1) (fun r => nI (rs r).2.length) fI kp.length cd pl XD XP XU XO XB 1 hR) (cwV 1 hts gX3_points_X3_no rfl rfl rfl (by decide +kernel) ⟨Nat.le_of_ble_eq_true rfl, Nat.le_of_ble_eq_true rfl⟩) gK_ok hK hW (wd_recv (ci := 3) hK.1 hW rfl hR.1) hS hA rfl hl.1 rfl (Nat.le_of_ble_eq_true rfl) dX3_points_22 ⟨Nat.le_of_ble_eq_true rfl, Nat.le_of_ble_eq_true rfl⟩ rfl rfl (fun r_22 w_22 H locs hp_22 hW hz hS => ?_)
        obtain ⟨q_r, hR⟩ := hp_22
        subst r_22
        refine wd_iret hx hb hr hlocks hW hS dX3_points_25 ?_
        have e9 : s_points (cd, pl, df, tx, kp, rs) (nI tN) = (0, 1, pl, df, tx, kp, rs) := by simp only [s_points, if_neg c_4, s_w1, s_no, s_yes, hcl_t, htx_12]
        show _ = (s_points (cd, pl, df, tx, kp, rs) (nI tN)).1 ∧ InvR cI m (s_points (cd, pl, df, tx, kp, rs) (nI tN)).2 _
        rw [e9]
        exact ⟨rfl, A, fI, XD, XP, XU, XO, XB, hR, hdf, hit⟩
    | some r_12 =>
      have hr24_12 := hlv _ _ htx_12
      have hok_12 := hok _ _ htx_12
      by_cases hkd : (rs r_12).1 = 2
      ·
        refine wd_topE (y := 2) (by show (if (rs r_12).1 = 2 then _ else _) = _; rw [if_pos hkd]) ?_
        refine lv_istore_n (lv' := [(2, .int 2), (0, .ref m), (1, .int (nI tN))]) hx hb dX3_points_15 rfl hl (by decide) rfl (fun ls hl => ?_)
        refine lv_iload_n hx hb dX3_points_16 rfl (lv_at hl 0 rfl) ?_
        refine lv_if_eq (tgt := 26) hx hb dX3_points_17 (by decide) (fun c_17 => ?_) (fun c_17 => ?_)
        ·
          exact absurd c_17 (by decide)
        ·
          refine lv_aload_n hx hb dX3_points_20 rfl (lv_at hl 1 rfl) ?_
          refine lv_iload_n hx hb dX3_points_21 rfl (lv_at hl 0 rfl) ?_
          refine wd_callVi (As := [.int 2]) (rest := []) (c2 := 0) (s2 := 0) ⟨hx, hb, hml, hown, hts⟩ (k_X3_no l D cI cT w H.size m A (fun t => oI (tx t)) (kI kp) (fun r => (rs r).1) (fun r => nI (rs r).2.length) fI kp.length cd pl XD XP XU XO XB 2 hR) (cwV 1 hts gX3_points_X3_no rfl rfl rfl (by decide +kernel) ⟨Nat.le_of_ble_eq_true rfl, Nat.le_of_ble_eq_true rfl⟩) gK_ok hK hW (wd_recv (ci := 3) hK.1 hW rfl hR.1) hS hA rfl hl.1 rfl (Nat.le_of_ble_eq_true rfl) dX3_points_22 ⟨Nat.le_of_ble_eq_true rfl, Nat.le_of_ble_eq_true rfl⟩ rfl rfl (fun r_22 w_22 H locs hp_22 hW hz hS => ?_)
          obtain ⟨q_r, hR⟩ := hp_22
          subst r_22
          refine wd_iret hx hb hr hlocks hW hS dX3_points_25 ?_
          have e9 : s_points (cd, pl, df, tx, kp, rs) (nI tN) = (0, 2, pl, df, tx, kp, rs) := by simp only [s_points, if_neg c_4, s_w1, s_no, s_yes, if_pos hkd, hcl_t, htx_12]
          show _ = (s_points (cd, pl, df, tx, kp, rs) (nI tN)).1 ∧ InvR cI m (s_points (cd, pl, df, tx, kp, rs) (nI tN)).2 _
          rw [e9]
          exact ⟨rfl, A, fI, XD, XP, XU, XO, XB, hR, hdf, hit⟩
      ·
        refine wd_topE (y := 0) (by show (if (rs r_12).1 = 2 then _ else _) = _; rw [if_neg hkd]) ?_
        have hl60 := hok_12.len2 hkd
        refine lv_istore_n (lv' := [(2, .int 0), (0, .ref m), (1, .int (nI tN))]) hx hb dX3_points_15 rfl hl (by decide) rfl (fun ls hl => ?_)
        refine lv_iload_n hx hb dX3_points_16 rfl (lv_at hl 0 rfl) ?_
        refine lv_if_eq (tgt := 26) hx hb dX3_points_17 (by decide) (fun c_17 => ?_) (fun c_17 => ?_)
        ·
          refine lv_aload_n hx hb dX3_points_26 rfl (lv_at hl 1 rfl) ?_
          refine lv_iload_n hx hb dX3_points_27 rfl (lv_at hl 2 rfl) ?_
          refine wd_callVv (As := [.int (nI tN)]) (rest := []) (c2 := 0) (s2 := 0) ⟨hx, hb, hml, hown, hts⟩ (k_X3_take l D cI cT w H.size m A (kI kp) fI kp.length cd pl XD XP XU XO XB tx rs tN r_12 hR (by omega) htx_12 hr24_12 hlv hit (hok _ _ htx_12) hkd) (cwV 1 hts gX3_points_X3_take rfl rfl rfl (by decide +kernel) ⟨Nat.le_of_ble_eq_true rfl, Nat.le_of_ble_eq_true rfl⟩) gK_ok hK hW (wd_recv (ci := 3) hK.1 hW rfl hR.1) hS hA rfl hl.1 rfl (Nat.le_of_ble_eq_true rfl) dX3_points_28 ⟨Nat.le_of_ble_eq_true rfl, Nat.le_of_ble_eq_true rfl⟩ rfl rfl (fun w_28 H locs hp_28 hW hz hS => ?_)
          obtain ⟨Y_28, Z_28, hY_28, hZ_28, hR⟩ := hp_28
          have hYc_28 := rl_cnt hY_28
          have hZc_28 := rl_cnt hZ_28
          have hYl_28 := u_pl_len (rs r_12).1 (rs r_12).2
          have hZl_28 := u_ul_len (rs r_12).1 (rs r_12).2
          refine lv_aload_n hx hb dX3_points_31 rfl (lv_at hl 1 rfl) ?_
          refine lv_aload_n hx hb dX3_points_32 rfl (lv_at hl 1 rfl) ?_
          refine wd_get (ci := 3) (v := .int (nI Y_28.2)) (C := RX3) (T := TX3) (N := 18) hx hb hts (by decide +kernel) hown hK.1 hW hR.1 rfl 11 (by decide) (hts (.fieldLink RX3 74 "CharRowsModel" "pointMany" "I") (by decide +kernel)) (fun _ h9 => h9) rfl dX3_points_33 ?_
          refine wd_callVi (As := [.int (nI Y_28.2)]) (rest := []) (c2 := 0) (s2 := 0) ⟨hx, hb, hml, hown, hts⟩ (k_X3_yes l D cI cT w_28 H.size m A (fun t => oI (tx t)) (kI kp) (fun r => (rs r).1) (fun r => nI (rs r).2.length) fI kp.length cd pl XD Y_28 Z_28 XO XB (nI Y_28.2) hR) (cwV 1 hts gX3_points_X3_yes rfl rfl rfl (by decide +kernel) ⟨Nat.le_of_ble_eq_true rfl, Nat.le_of_ble_eq_true rfl⟩) gK_ok hK hW (wd_recv (ci := 3) hK.1 hW rfl hR.1) hS hA rfl hl.1 rfl (Nat.le_of_ble_eq_true rfl) dX3_points_36 ⟨Nat.le_of_ble_eq_true rfl, Nat.le_of_ble_eq_true rfl⟩ rfl rfl (fun r_36 w_36 H locs hp_36 hW hz hS => ?_)
          obtain ⟨q_r, hR⟩ := hp_36
          subst r_36
          refine wd_iret hx hb hr hlocks hW hS dX3_points_39 ?_
          have e9 : s_points (cd, pl, df, tx, kp, rs) (nI tN) = (nI Y_28.2, 0, pl, df, tx, kp, rs) := by simp only [s_points, if_neg c_4, s_w1, s_no, s_yes, if_neg hkd, hcl_t, htx_12]; rw [hYc_28]
          show _ = (s_points (cd, pl, df, tx, kp, rs) (nI tN)).1 ∧ InvR cI m (s_points (cd, pl, df, tx, kp, rs) (nI tN)).2 _
          rw [e9]
          exact ⟨rfl, A, fI, XD, Y_28, Z_28, XO, XB, hR, hdf, hit⟩
        ·
          exact absurd rfl c_17
  ·
    have c_4 := nt_of (j_b0 c_4)
    refine lv_ldc (v := (-2000000001)) hx hb hown (hts (.constant RX3 107 (-2000000001)) (by decide +kernel)) dX3_points_7 ?_
    refine wd_iret hx hb hr hlocks hW hS dX3_points_9 ?_
    have e9 : s_points (cd, pl, df, tx, kp, rs) t = ((-2000000001), cd, pl, df, tx, kp, rs) := by simp only [s_points, if_pos c_4, s_w1, s_no, s_yes]
    show _ = (s_points (cd, pl, df, tx, kp, rs) t).1 ∧ InvR cI m (s_points (cd, pl, df, tx, kp, rs) t).2 _
    rw [e9]
    exact ⟨rfl, A, fI, XD, XP, XU, XO, XB, hR, hdf, hit⟩
set_option maxHeartbeats 4000000 in
set_option maxRecDepth 100000 in
theorem k_X3_at (l : Launch) (D : va_G) (cI cT : ClassId) (w : Wd) (sz : Nat) (m : Nat) (cd : Int32) (pl : Int32) (df : List Int32) (tx : Nat → Option Nat) (kp : List Nat) (rs : Rws) (t : Int32) (k : Int32) (hwf : WF (cd, pl, df, tx, kp, rs)) (hI : InvR cI m (cd, pl, df, tx, kp, rs) w) : wd_Mi l D vwCl (gK D cI cT) yX3_at wsX3_at (wd_rm 2 0 0) [.ref m, .int t, .int k] w sz (fun r w' => r = (s_at (cd, pl, df, tx, kp, rs) t k).1 ∧ InvR cI m (s_at (cd, pl, df, tx, kp, rs) t k).2 w') := by
  refine wd_met (cc := cX3_at) (maxL := 3) (ret := (some .int)) (by decide) rfl (Nat.le_of_ble_eq_true rfl) ?_
  intro pg ev sg mi bl mt cde ls C0 hsz hK hW hl
  obtain ⟨hx, hb, hr, hml, hown, hts, hlocks, hnm⟩ := C0
  subst hsz
  have hown : sg.vm.findClass RX3 = some mi.cls := hown
  have hS : va_S (wd_A w sg.heap.size) sg.heap sg.heap [] := va_S.rf
  have hA : ∀ q, sg.heap.size ≤ q → wd_A w sg.heap.size q := fun q h => Or.inr h
  have hl : lv_has ls 3 [(0, .ref m), (1, .int t), (2, .int k)] := hl
  obtain ⟨A, fI, XD, XP, XU, XO, XB, hR, hdf, hit⟩ := hI
  dsimp only at hR hdf hit
  have h10 : ∀ t, 10 ≤ t → tx t = none := hwf.2.1
  have hkp : kp.length ≤ 12 := hwf.2.2.1
  have hlv : ∀ t r, tx t = some r → r < 24 := fun t r h => (hwf.2.2.2.1 r (Or.inl ⟨t, h⟩)).1
  have hok : ∀ t r, tx t = some r → rOK (rs r) := fun t r h => (hwf.2.2.2.1 r (Or.inl ⟨t, h⟩)).2
  have hk24 : ∀ r ∈ kp, r < 24 := fun r h => (hwf.2.2.2.1 r (Or.inr h)).1
  have hdl : df.length = XD.2 := by rw [← hdf, rl_len]
  have hd60 : df.length ≤ 60 := hwf.1.1
  refine lv_iload_n hx hb dX3_at_0 rfl (lv_at hl 1 rfl) ?_
  refine wd_callSi (As := [.int t]) (rest := []) (c2 := 0) (s2 := 0) ⟨hx, hb, hml, hown, hts⟩ (k_X3_isText l D cI cT w sg.heap.size t ) (va_cwS 1 hts gX3_at_X3_isText rfl rfl rfl (by decide +kernel) ⟨Nat.le_of_ble_eq_true rfl, Nat.le_of_ble_eq_true rfl⟩) gK_ok hK hW hS hA rfl hl.1 rfl (Nat.le_of_ble_eq_true rfl) dX3_at_1 ⟨Nat.le_of_ble_eq_true rfl, Nat.le_of_ble_eq_true rfl⟩ rfl rfl (fun r_1 w_1 H locs hp_1 hW hz hS => ?_)
  obtain ⟨q_r, q_w⟩ := hp_1
  subst r_1
  subst w_1
  refine lv_if_ne (tgt := 10) hx hb dX3_at_4 (by decide) (fun c_4 => ?_) (fun c_4 => ?_)
  ·
    have c_4 := j_bn c_4
    obtain ⟨tN, htN, htE⟩ := nt_spec c_4
    subst htE
    have hcl_t : (nI tN).toNatClampNeg = tN := nI_clamp (by omega)
    refine lv_aload_n hx hb dX3_at_10 rfl (lv_at hl 0 rfl) ?_
    refine lv_iload_n hx hb dX3_at_11 rfl (lv_at hl 1 rfl) ?_
    refine wd_callVi (As := [.int (nI tN)]) (rest := []) (c2 := 0) (s2 := 0) ⟨hx, hb, hml, hown, hts⟩ (k_X3_sortOf l D cI cT w H.size m A (kI kp) (fun r => nI (rs r).2.length) fI kp.length cd pl XD XP XU XO XB tx rs tN hR (by omega) hlv) (cwV 1 hts gX3_at_X3_sortOf rfl rfl rfl (by decide +kernel) ⟨Nat.le_of_ble_eq_true rfl, Nat.le_of_ble_eq_true rfl⟩) gK_ok hK hW (wd_recv (ci := 3) hK.1 hW rfl hR.1) hS hA rfl hl.1 rfl (Nat.le_of_ble_eq_true rfl) dX3_at_12 ⟨Nat.le_of_ble_eq_true rfl, Nat.le_of_ble_eq_true rfl⟩ rfl rfl (fun r_12 w_12 H locs hp_12 hW hz hS => ?_)
    obtain ⟨q_r, q_w⟩ := hp_12
    subst r_12
    subst w_12
    cases htx_12 : tx tN with
    | none =>
      refine wd_topE (y := -1) rfl ?_
      refine lv_iconst (v := (-1)) hx hb dX3_at_15 (by decide) ?_
      refine lv_icmp_ne (tgt := 25) hx hb dX3_at_16 (by decide) (fun c_16 => ?_) (fun c_16 => ?_)
      ·
        exact absurd rfl c_16
      ·
        refine lv_aload_n hx hb dX3_at_19 rfl (lv_at hl 0 rfl) ?_
        refine lv_iconst (v := 1) hx hb dX3_at_20 (by decide) ?_
        refine wd_callVi (As := [.int 1]) (rest := []) (c2 := 0) (s2 := 0) ⟨hx, hb, hml, hown, hts⟩ (k_X3_no l D cI cT w H.size m A (fun t => oI (tx t)) (kI kp) (fun r => (rs r).1) (fun r => nI (rs r).2.length) fI kp.length cd pl XD XP XU XO XB 1 hR) (cwV 1 hts gX3_at_X3_no rfl rfl rfl (by decide +kernel) ⟨Nat.le_of_ble_eq_true rfl, Nat.le_of_ble_eq_true rfl⟩) gK_ok hK hW (wd_recv (ci := 3) hK.1 hW rfl hR.1) hS hA rfl hl.1 rfl (Nat.le_of_ble_eq_true rfl) dX3_at_21 ⟨Nat.le_of_ble_eq_true rfl, Nat.le_of_ble_eq_true rfl⟩ rfl rfl (fun r_21 w_21 H locs hp_21 hW hz hS => ?_)
        obtain ⟨q_r, hR⟩ := hp_21
        subst r_21
        refine wd_iret hx hb hr hlocks hW hS dX3_at_24 ?_
        have e9 : s_at (cd, pl, df, tx, kp, rs) (nI tN) k = (0, 1, pl, df, tx, kp, rs) := by simp only [s_at, if_neg c_4, s_w1, s_no, s_yes, hcl_t, htx_12]
        show _ = (s_at (cd, pl, df, tx, kp, rs) (nI tN) k).1 ∧ InvR cI m (s_at (cd, pl, df, tx, kp, rs) (nI tN) k).2 _
        rw [e9]
        exact ⟨rfl, A, fI, XD, XP, XU, XO, XB, hR, hdf, hit⟩
    | some r_12 =>
      refine wd_topE (y := (rs r_12).1) rfl ?_
      have hr24_12 := hlv _ _ htx_12
      refine lv_iconst (v := (-1)) hx hb dX3_at_15 (by decide) ?_
      refine lv_icmp_ne (tgt := 25) hx hb dX3_at_16 (by decide) (fun c_16 => ?_) (fun c_16 => ?_)
      ·
        refine lv_iload_n hx hb dX3_at_25 rfl (lv_at hl 2 rfl) ?_
        refine lv_iconst (v := 0) hx hb dX3_at_26 (by decide) ?_
        refine lv_aload_n hx hb dX3_at_27 rfl (lv_at hl 0 rfl) ?_
        refine lv_iload_n hx hb dX3_at_28 rfl (lv_at hl 1 rfl) ?_
        refine wd_callVi (As := [.int (nI tN)]) (rest := [.int 0, .int k]) (c2 := 0) (s2 := 0) ⟨hx, hb, hml, hown, hts⟩ (k_X3_manyOf l D cI cT w H.size m A (kI kp) (fun r => (rs r).1) fI kp.length cd pl XD XP XU XO XB tx rs tN r_12 hR (by omega) htx_12 hr24_12) (cwV 1 hts gX3_at_X3_manyOf rfl rfl rfl (by decide +kernel) ⟨Nat.le_of_ble_eq_true rfl, Nat.le_of_ble_eq_true rfl⟩) gK_ok hK hW (wd_recv (ci := 3) hK.1 hW rfl hR.1) hS hA rfl hl.1 rfl (Nat.le_of_ble_eq_true rfl) dX3_at_29 ⟨Nat.le_of_ble_eq_true rfl, Nat.le_of_ble_eq_true rfl⟩ rfl rfl (fun r_29 w_29 H locs hp_29 hW hz hS => ?_)
        obtain ⟨q_r, q_w⟩ := hp_29
        subst r_29
        subst w_29
        refine lv_iconst (v := 1) hx hb dX3_at_32 (by decide) ?_
        refine lv_isub hx hb dX3_at_33 ?_
        refine wd_callSi (As := [.int k, .int 0, .int ((nI ((rs r_12).2.length)) - 1)]) (rest := []) (c2 := 0) (s2 := 0) ⟨hx, hb, hml, hown, hts⟩ (k_X3_within l D cI cT w H.size k 0 ((nI ((rs r_12).2.length)) - 1) ) (va_cwS 3 hts gX3_at_X3_within rfl rfl rfl (by decide +kernel) ⟨Nat.le_of_ble_eq_true rfl, Nat.le_of_ble_eq_true rfl⟩) gK_ok hK hW hS hA rfl hl.1 rfl (Nat.le_of_ble_eq_true rfl) dX3_at_34 ⟨Nat.le_of_ble_eq_true rfl, Nat.le_of_ble_eq_true rfl⟩ rfl rfl (fun r_34 w_34 H locs hp_34 hW hz hS => ?_)
        obtain ⟨q_r, q_w⟩ := hp_34
        subst r_34
        subst w_34
        refine lv_if_eq (tgt := 53) hx hb dX3_at_37 (by decide) (fun c_37 => ?_) (fun c_37 => ?_)
        ·
          have c_37 := w_no (w_out (k := k) (len := (rs r_12).2.length) (by have := (hok _ _ htx_12).len; omega)) (j_b0 c_37)
          refine lv_aload_n hx hb dX3_at_53 rfl (lv_at hl 0 rfl) ?_
          refine lv_iconst (v := 3) hx hb dX3_at_54 (by decide) ?_
          refine wd_callVi (As := [.int 3]) (rest := []) (c2 := 0) (s2 := 0) ⟨hx, hb, hml, hown, hts⟩ (k_X3_no l D cI cT w H.size m A (fun t => oI (tx t)) (kI kp) (fun r => (rs r).1) (fun r => nI (rs r).2.length) fI kp.length cd pl XD XP XU XO XB 3 hR) (cwV 1 hts gX3_at_X3_no rfl rfl rfl (by decide +kernel) ⟨Nat.le_of_ble_eq_true rfl, Nat.le_of_ble_eq_true rfl⟩) gK_ok hK hW (wd_recv (ci := 3) hK.1 hW rfl hR.1) hS hA rfl hl.1 rfl (Nat.le_of_ble_eq_true rfl) dX3_at_55 ⟨Nat.le_of_ble_eq_true rfl, Nat.le_of_ble_eq_true rfl⟩ rfl rfl (fun r_55 w_55 H locs hp_55 hW hz hS => ?_)
          obtain ⟨q_r, hR⟩ := hp_55
          subst r_55
          refine wd_iret hx hb hr hlocks hW hS dX3_at_58 ?_
          have e9 : s_at (cd, pl, df, tx, kp, rs) (nI tN) k = (0, 3, pl, df, tx, kp, rs) := by simp only [s_at, if_neg c_4, s_w1, s_no, s_yes, if_pos c_37, hcl_t, htx_12]
          show _ = (s_at (cd, pl, df, tx, kp, rs) (nI tN) k).1 ∧ InvR cI m (s_at (cd, pl, df, tx, kp, rs) (nI tN) k).2 _
          rw [e9]
          exact ⟨rfl, A, fI, XD, XP, XU, XO, XB, hR, hdf, hit⟩
        ·
          have c_37 := (w_out (k := k) (len := (rs r_12).2.length) (by have := (hok _ _ htx_12).len; omega)).mp (j_bn c_37)
          have hlen := (hok _ _ htx_12).len
          obtain ⟨kN, hkN, hkE⟩ := out_spec (by omega) c_37
          subst hkE
          have hcl_k : (nI kN).toNatClampNeg = kN := nI_clamp (by omega)
          refine lv_aload_n hx hb dX3_at_40 rfl (lv_at hl 0 rfl) ?_
          refine lv_aload_n hx hb dX3_at_41 rfl (lv_at hl 0 rfl) ?_
          refine lv_iload_n hx hb dX3_at_42 rfl (lv_at hl 1 rfl) ?_
          refine lv_iload_n hx hb dX3_at_43 rfl (lv_at hl 2 rfl) ?_
          refine wd_callVi (As := [.int (nI tN), .int (nI kN)]) (rest := [.ref m]) (c2 := 0) (s2 := 0) ⟨hx, hb, hml, hown, hts⟩ (k_X3_item l D cI cT w H.size m A (kI kp) (fun r => (rs r).1) (fun r => nI (rs r).2.length) fI kp.length cd pl XD XP XU XO XB tx rs tN r_12 kN hR (by omega) htx_12 hr24_12 hit (by omega)) (cwV 2 hts gX3_at_X3_item rfl rfl rfl (by decide +kernel) ⟨Nat.le_of_ble_eq_true rfl, Nat.le_of_ble_eq_true rfl⟩) gK_ok hK hW (wd_recv (ci := 3) hK.1 hW rfl hR.1) hS hA rfl hl.1 rfl (Nat.le_of_ble_eq_true rfl) dX3_at_44 ⟨Nat.le_of_ble_eq_true rfl, Nat.le_of_ble_eq_true rfl⟩ rfl rfl (fun r_44 w_44 H locs hp_44 hW hz hS => ?_)
          obtain ⟨q_r, q_w⟩ := hp_44
          subst r_44
          subst w_44
          refine wd_callVi (As := [.int (lf (rs r_12).2 kN)]) (rest := []) (c2 := 0) (s2 := 0) ⟨hx, hb, hml, hown, hts⟩ (k_X3_yes l D cI cT w H.size m A (fun t => oI (tx t)) (kI kp) (fun r => (rs r).1) (fun r => nI (rs r).2.length) fI kp.length cd pl XD XP XU XO XB (lf (rs r_12).2 kN) hR) (cwV 1 hts gX3_at_X3_yes rfl rfl rfl (by decide +kernel) ⟨Nat.le_of_ble_eq_true rfl, Nat.le_of_ble_eq_true rfl⟩) gK_ok hK hW (wd_recv (ci := 3) hK.1 hW rfl hR.1) hS hA rfl hl.1 rfl (Nat.le_of_ble_eq_true rfl) dX3_at_47 ⟨Nat.le_of_ble_eq_true rfl, Nat.le_of_ble_eq_true rfl⟩ rfl rfl (fun r_47 w_47 H locs hp_47 hW hz hS => ?_)
          obtain ⟨q_r, hR⟩ := hp_47
          subst r_47
          refine lv_goto (tgt := 58) hx hb dX3_at_50 (by decide) ?_
          refine wd_iret hx hb hr hlocks hW hS dX3_at_58 ?_
          have e9 : s_at (cd, pl, df, tx, kp, rs) (nI tN) (nI kN) = (lf (rs r_12).2 kN, 0, pl, df, tx, kp, rs) := by simp only [s_at, if_neg c_4, s_w1, s_no, s_yes, if_neg c_37, hcl_t, hcl_k, htx_12]
          show _ = (s_at (cd, pl, df, tx, kp, rs) (nI tN) (nI kN)).1 ∧ InvR cI m (s_at (cd, pl, df, tx, kp, rs) (nI tN) (nI kN)).2 _
          rw [e9]
          exact ⟨rfl, A, fI, XD, XP, XU, XO, XB, hR, hdf, hit⟩
      ·
        exact absurd c_16 (hok _ _ htx_12).nm1
  ·
    have c_4 := nt_of (j_b0 c_4)
    refine lv_ldc (v := (-2000000001)) hx hb hown (hts (.constant RX3 107 (-2000000001)) (by decide +kernel)) dX3_at_7 ?_
    refine wd_iret hx hb hr hlocks hW hS dX3_at_9 ?_
    have e9 : s_at (cd, pl, df, tx, kp, rs) t k = ((-2000000001), cd, pl, df, tx, kp, rs) := by simp only [s_at, if_pos c_4, s_w1, s_no, s_yes]
    show _ = (s_at (cd, pl, df, tx, kp, rs) t k).1 ∧ InvR cI m (s_at (cd, pl, df, tx, kp, rs) t k).2 _
    rw [e9]
    exact ⟨rfl, A, fI, XD, XP, XU, XO, XB, hR, hdf, hit⟩
set_option maxHeartbeats 4000000 in
set_option maxRecDepth 100000 in
theorem k_X3_pointAt (l : Launch) (D : va_G) (cI cT : ClassId) (w : Wd) (sz : Nat) (m : Nat) (cd : Int32) (pl : Int32) (df : List Int32) (tx : Nat → Option Nat) (kp : List Nat) (rs : Rws) (t : Int32) (k : Int32) (hwf : WF (cd, pl, df, tx, kp, rs)) (hI : InvR cI m (cd, pl, df, tx, kp, rs) w) : wd_Mi l D vwCl (gK D cI cT) yX3_pointAt wsX3_pointAt (wd_rm 4 0 0) [.ref m, .int t, .int k] w sz (fun r w' => r = (s_pointAt (cd, pl, df, tx, kp, rs) t k).1 ∧ InvR cI m (s_pointAt (cd, pl, df, tx, kp, rs) t k).2 w') := by
  refine wd_met (cc := cX3_pointAt) (maxL := 4) (ret := (some .int)) (by decide) rfl (Nat.le_of_ble_eq_true rfl) ?_
  intro pg ev sg mi bl mt cde ls C0 hsz hK hW hl
  obtain ⟨hx, hb, hr, hml, hown, hts, hlocks, hnm⟩ := C0
  subst hsz
  have hown : sg.vm.findClass RX3 = some mi.cls := hown
  have hS : va_S (wd_A w sg.heap.size) sg.heap sg.heap [] := va_S.rf
  have hA : ∀ q, sg.heap.size ≤ q → wd_A w sg.heap.size q := fun q h => Or.inr h
  have hl : lv_has ls 4 [(0, .ref m), (1, .int t), (2, .int k)] := hl
  obtain ⟨A, fI, XD, XP, XU, XO, XB, hR, hdf, hit⟩ := hI
  dsimp only at hR hdf hit
  have h10 : ∀ t, 10 ≤ t → tx t = none := hwf.2.1
  have hkp : kp.length ≤ 12 := hwf.2.2.1
  have hlv : ∀ t r, tx t = some r → r < 24 := fun t r h => (hwf.2.2.2.1 r (Or.inl ⟨t, h⟩)).1
  have hok : ∀ t r, tx t = some r → rOK (rs r) := fun t r h => (hwf.2.2.2.1 r (Or.inl ⟨t, h⟩)).2
  have hk24 : ∀ r ∈ kp, r < 24 := fun r h => (hwf.2.2.2.1 r (Or.inr h)).1
  have hdl : df.length = XD.2 := by rw [← hdf, rl_len]
  have hd60 : df.length ≤ 60 := hwf.1.1
  refine lv_iload_n hx hb dX3_pointAt_0 rfl (lv_at hl 1 rfl) ?_
  refine wd_callSi (As := [.int t]) (rest := []) (c2 := 0) (s2 := 0) ⟨hx, hb, hml, hown, hts⟩ (k_X3_isText l D cI cT w sg.heap.size t ) (va_cwS 1 hts gX3_pointAt_X3_isText rfl rfl rfl (by decide +kernel) ⟨Nat.le_of_ble_eq_true rfl, Nat.le_of_ble_eq_true rfl⟩) gK_ok hK hW hS hA rfl hl.1 rfl (Nat.le_of_ble_eq_true rfl) dX3_pointAt_1 ⟨Nat.le_of_ble_eq_true rfl, Nat.le_of_ble_eq_true rfl⟩ rfl rfl (fun r_1 w_1 H locs hp_1 hW hz hS => ?_)
  obtain ⟨q_r, q_w⟩ := hp_1
  subst r_1
  subst w_1
  refine lv_if_ne (tgt := 10) hx hb dX3_pointAt_4 (by decide) (fun c_4 => ?_) (fun c_4 => ?_)
  ·
    have c_4 := j_bn c_4
    obtain ⟨tN, htN, htE⟩ := nt_spec c_4
    subst htE
    have hcl_t : (nI tN).toNatClampNeg = tN := nI_clamp (by omega)
    refine lv_aload_n hx hb dX3_pointAt_10 rfl (lv_at hl 0 rfl) ?_
    refine lv_iload_n hx hb dX3_pointAt_11 rfl (lv_at hl 1 rfl) ?_
    refine wd_callVi (As := [.int (nI tN)]) (rest := []) (c2 := 0) (s2 := 0) ⟨hx, hb, hml, hown, hts⟩ (k_X3_wantsPoints l D cI cT w H.size m A (kI kp) (fun r => nI (rs r).2.length) fI kp.length cd pl XD XP XU XO XB tx rs tN hR (by omega) hlv hok) (cwV 1 hts gX3_pointAt_X3_wantsPoints rfl rfl rfl (by decide +kernel) ⟨Nat.le_of_ble_eq_true rfl, Nat.le_of_ble_eq_true rfl⟩) gK_ok hK hW (wd_recv (ci := 3) hK.1 hW rfl hR.1) hS hA rfl hl.1 rfl (Nat.le_of_ble_eq_true rfl) dX3_pointAt_12 ⟨Nat.le_of_ble_eq_true rfl, Nat.le_of_ble_eq_true rfl⟩ rfl rfl (fun r_12 w_12 H locs hp_12 hW hz hS => ?_)
    obtain ⟨q_r, q_w⟩ := hp_12
    subst r_12
    subst w_12
    cases htx_12 : tx tN with
    | none =>
      refine wd_topE (y := 1) rfl ?_
      refine lv_istore_n (lv' := [(3, .int 1), (0, .ref m), (1, .int (nI tN)), (2, .int k)]) hx hb dX3_pointAt_15 rfl hl (by decide) rfl (fun ls hl => ?_)
      refine lv_iload_n hx hb dX3_pointAt_16 rfl (lv_at hl 0 rfl) ?_
      refine lv_if_eq (tgt := 26) hx hb dX3_pointAt_17 (by decide) (fun c_17 => ?_) (fun c_17 => ?_)
      ·
        exact absurd c_17 (by decide)
      ·
        refine lv_aload_n hx hb dX3_pointAt_20 rfl (lv_at hl 1 rfl) ?_
        refine lv_iload_n hx hb dX3_pointAt_21 rfl (lv_at hl 0 rfl) ?_
        refine wd_callVi (As := [.int 1]) (rest := []) (c2 := 0) (s2 := 0) ⟨hx, hb, hml, hown, hts⟩ (k_X3_no l D cI cT w H.size m A (fun t => oI (tx t)) (kI kp) (fun r => (rs r).1) (fun r => nI (rs r).2.length) fI kp.length cd pl XD XP XU XO XB 1 hR) (cwV 1 hts gX3_pointAt_X3_no rfl rfl rfl (by decide +kernel) ⟨Nat.le_of_ble_eq_true rfl, Nat.le_of_ble_eq_true rfl⟩) gK_ok hK hW (wd_recv (ci := 3) hK.1 hW rfl hR.1) hS hA rfl hl.1 rfl (Nat.le_of_ble_eq_true rfl) dX3_pointAt_22 ⟨Nat.le_of_ble_eq_true rfl, Nat.le_of_ble_eq_true rfl⟩ rfl rfl (fun r_22 w_22 H locs hp_22 hW hz hS => ?_)
        obtain ⟨q_r, hR⟩ := hp_22
        subst r_22
        refine wd_iret hx hb hr hlocks hW hS dX3_pointAt_25 ?_
        have e9 : s_pointAt (cd, pl, df, tx, kp, rs) (nI tN) k = (0, 1, pl, df, tx, kp, rs) := by simp only [s_pointAt, if_neg c_4, s_w1, s_no, s_yes, hcl_t, htx_12]
        show _ = (s_pointAt (cd, pl, df, tx, kp, rs) (nI tN) k).1 ∧ InvR cI m (s_pointAt (cd, pl, df, tx, kp, rs) (nI tN) k).2 _
        rw [e9]
        exact ⟨rfl, A, fI, XD, XP, XU, XO, XB, hR, hdf, hit⟩
    | some r_12 =>
      have hr24_12 := hlv _ _ htx_12
      have hok_12 := hok _ _ htx_12
      by_cases hkd : (rs r_12).1 = 2
      ·
        refine wd_topE (y := 2) (by show (if (rs r_12).1 = 2 then _ else _) = _; rw [if_pos hkd]) ?_
        refine lv_istore_n (lv' := [(3, .int 2), (0, .ref m), (1, .int (nI tN)), (2, .int k)]) hx hb dX3_pointAt_15 rfl hl (by decide) rfl (fun ls hl => ?_)
        refine lv_iload_n hx hb dX3_pointAt_16 rfl (lv_at hl 0 rfl) ?_
        refine lv_if_eq (tgt := 26) hx hb dX3_pointAt_17 (by decide) (fun c_17 => ?_) (fun c_17 => ?_)
        ·
          exact absurd c_17 (by decide)
        ·
          refine lv_aload_n hx hb dX3_pointAt_20 rfl (lv_at hl 1 rfl) ?_
          refine lv_iload_n hx hb dX3_pointAt_21 rfl (lv_at hl 0 rfl) ?_
          refine wd_callVi (As := [.int 2]) (rest := []) (c2 := 0) (s2 := 0) ⟨hx, hb, hml, hown, hts⟩ (k_X3_no l D cI cT w H.size m A (fun t => oI (tx t)) (kI kp) (fun r => (rs r).1) (fun r => nI (rs r).2.length) fI kp.length cd pl XD XP XU XO XB 2 hR) (cwV 1 hts gX3_pointAt_X3_no rfl rfl rfl (by decide +kernel) ⟨Nat.le_of_ble_eq_true rfl, Nat.le_of_ble_eq_true rfl⟩) gK_ok hK hW (wd_recv (ci := 3) hK.1 hW rfl hR.1) hS hA rfl hl.1 rfl (Nat.le_of_ble_eq_true rfl) dX3_pointAt_22 ⟨Nat.le_of_ble_eq_true rfl, Nat.le_of_ble_eq_true rfl⟩ rfl rfl (fun r_22 w_22 H locs hp_22 hW hz hS => ?_)
          obtain ⟨q_r, hR⟩ := hp_22
          subst r_22
          refine wd_iret hx hb hr hlocks hW hS dX3_pointAt_25 ?_
          have e9 : s_pointAt (cd, pl, df, tx, kp, rs) (nI tN) k = (0, 2, pl, df, tx, kp, rs) := by simp only [s_pointAt, if_neg c_4, s_w1, s_no, s_yes, if_pos hkd, hcl_t, htx_12]
          show _ = (s_pointAt (cd, pl, df, tx, kp, rs) (nI tN) k).1 ∧ InvR cI m (s_pointAt (cd, pl, df, tx, kp, rs) (nI tN) k).2 _
          rw [e9]
          exact ⟨rfl, A, fI, XD, XP, XU, XO, XB, hR, hdf, hit⟩
      ·
        refine wd_topE (y := 0) (by show (if (rs r_12).1 = 2 then _ else _) = _; rw [if_neg hkd]) ?_
        have hl60 := hok_12.len2 hkd
        refine lv_istore_n (lv' := [(3, .int 0), (0, .ref m), (1, .int (nI tN)), (2, .int k)]) hx hb dX3_pointAt_15 rfl hl (by decide) rfl (fun ls hl => ?_)
        refine lv_iload_n hx hb dX3_pointAt_16 rfl (lv_at hl 0 rfl) ?_
        refine lv_if_eq (tgt := 26) hx hb dX3_pointAt_17 (by decide) (fun c_17 => ?_) (fun c_17 => ?_)
        ·
          refine lv_aload_n hx hb dX3_pointAt_26 rfl (lv_at hl 1 rfl) ?_
          refine lv_iload_n hx hb dX3_pointAt_27 rfl (lv_at hl 2 rfl) ?_
          refine wd_callVv (As := [.int (nI tN)]) (rest := []) (c2 := 0) (s2 := 0) ⟨hx, hb, hml, hown, hts⟩ (k_X3_take l D cI cT w H.size m A (kI kp) fI kp.length cd pl XD XP XU XO XB tx rs tN r_12 hR (by omega) htx_12 hr24_12 hlv hit (hok _ _ htx_12) hkd) (cwV 1 hts gX3_pointAt_X3_take rfl rfl rfl (by decide +kernel) ⟨Nat.le_of_ble_eq_true rfl, Nat.le_of_ble_eq_true rfl⟩) gK_ok hK hW (wd_recv (ci := 3) hK.1 hW rfl hR.1) hS hA rfl hl.1 rfl (Nat.le_of_ble_eq_true rfl) dX3_pointAt_28 ⟨Nat.le_of_ble_eq_true rfl, Nat.le_of_ble_eq_true rfl⟩ rfl rfl (fun w_28 H locs hp_28 hW hz hS => ?_)
          obtain ⟨Y_28, Z_28, hY_28, hZ_28, hR⟩ := hp_28
          have hYc_28 := rl_cnt hY_28
          have hZc_28 := rl_cnt hZ_28
          have hYl_28 := u_pl_len (rs r_12).1 (rs r_12).2
          have hZl_28 := u_ul_len (rs r_12).1 (rs r_12).2
          refine lv_iload_n hx hb dX3_pointAt_31 rfl (lv_at hl 3 rfl) ?_
          refine lv_iconst (v := 0) hx hb dX3_pointAt_32 (by decide) ?_
          refine lv_aload_n hx hb dX3_pointAt_33 rfl (lv_at hl 1 rfl) ?_
          refine wd_get (ci := 3) (v := .int (nI Y_28.2)) (C := RX3) (T := TX3) (N := 18) hx hb hts (by decide +kernel) hown hK.1 hW hR.1 rfl 11 (by decide) (hts (.fieldLink RX3 74 "CharRowsModel" "pointMany" "I") (by decide +kernel)) (fun _ h9 => h9) rfl dX3_pointAt_34 ?_
          refine lv_iconst (v := 1) hx hb dX3_pointAt_37 (by decide) ?_
          refine lv_isub hx hb dX3_pointAt_38 ?_
          refine wd_callSi (As := [.int k, .int 0, .int ((nI Y_28.2) - 1)]) (rest := []) (c2 := 0) (s2 := 0) ⟨hx, hb, hml, hown, hts⟩ (k_X3_within l D cI cT w_28 H.size k 0 ((nI Y_28.2) - 1) ) (va_cwS 3 hts gX3_pointAt_X3_within rfl rfl rfl (by decide +kernel) ⟨Nat.le_of_ble_eq_true rfl, Nat.le_of_ble_eq_true rfl⟩) gK_ok hK hW hS hA rfl hl.1 rfl (Nat.le_of_ble_eq_true rfl) dX3_pointAt_39 ⟨Nat.le_of_ble_eq_true rfl, Nat.le_of_ble_eq_true rfl⟩ rfl rfl (fun r_39 w_39 H locs hp_39 hW hz hS => ?_)
          obtain ⟨q_r, q_w⟩ := hp_39
          subst r_39
          subst w_39
          refine lv_if_eq (tgt := 58) hx hb dX3_pointAt_42 (by decide) (fun c_42 => ?_) (fun c_42 => ?_)
          ·
            have c_42 := w_no (w_out (k := k) (len := Y_28.2) (by omega)) (j_b0 c_42)
            refine lv_aload_n hx hb dX3_pointAt_58 rfl (lv_at hl 1 rfl) ?_
            refine lv_iconst (v := 3) hx hb dX3_pointAt_59 (by decide) ?_
            refine wd_callVi (As := [.int 3]) (rest := []) (c2 := 0) (s2 := 0) ⟨hx, hb, hml, hown, hts⟩ (k_X3_no l D cI cT w_28 H.size m A (fun t => oI (tx t)) (kI kp) (fun r => (rs r).1) (fun r => nI (rs r).2.length) fI kp.length cd pl XD Y_28 Z_28 XO XB 3 hR) (cwV 1 hts gX3_pointAt_X3_no rfl rfl rfl (by decide +kernel) ⟨Nat.le_of_ble_eq_true rfl, Nat.le_of_ble_eq_true rfl⟩) gK_ok hK hW (wd_recv (ci := 3) hK.1 hW rfl hR.1) hS hA rfl hl.1 rfl (Nat.le_of_ble_eq_true rfl) dX3_pointAt_60 ⟨Nat.le_of_ble_eq_true rfl, Nat.le_of_ble_eq_true rfl⟩ rfl rfl (fun r_60 w_60 H locs hp_60 hW hz hS => ?_)
            obtain ⟨q_r, hR⟩ := hp_60
            subst r_60
            refine wd_iret hx hb hr hlocks hW hS dX3_pointAt_63 ?_
            have e9 : s_pointAt (cd, pl, df, tx, kp, rs) (nI tN) k = (0, 3, pl, df, tx, kp, rs) := by simp only [s_pointAt, if_neg c_4, s_w1, s_no, s_yes, if_neg hkd, ← hYc_28, if_pos c_42, hcl_t, htx_12]
            show _ = (s_pointAt (cd, pl, df, tx, kp, rs) (nI tN) k).1 ∧ InvR cI m (s_pointAt (cd, pl, df, tx, kp, rs) (nI tN) k).2 _
            rw [e9]
            exact ⟨rfl, A, fI, XD, Y_28, Z_28, XO, XB, hR, hdf, hit⟩
          ·
            have c_42 := (w_out (k := k) (len := Y_28.2) (by omega)).mp (j_bn c_42)
            obtain ⟨kN, hkN, hkE⟩ := out_spec (by omega) c_42
            subst hkE
            have hcl_k : (nI kN).toNatClampNeg = kN := nI_clamp (by omega)
            refine lv_aload_n hx hb dX3_pointAt_45 rfl (lv_at hl 1 rfl) ?_
            refine lv_aload_n hx hb dX3_pointAt_46 rfl (lv_at hl 1 rfl) ?_
            refine wd_get (ci := 3) (v := .ref (A 6)) (C := RX3) (T := TX3) (N := 18) hx hb hts (by decide +kernel) hown hK.1 hW hR.1 rfl 10 (by decide) (hts (.fieldLink RX3 32 "CharRowsModel" "points" "[I") (by decide +kernel)) (fun _ h9 => h9) rfl dX3_pointAt_47 ?_
            refine lv_iload_n hx hb dX3_pointAt_50 rfl (lv_at hl 3 rfl) ?_
            refine wd_iald hx hb hK.1 hW 0 hR.2.2.2.2.2.2.2.1 rfl (vp_in_nI (by omega) (by omega)) dX3_pointAt_51 ?_
            refine wd_topE (y := Y_28.1 kN) (by rw [nI_clamp (by omega)]) ?_
            refine wd_callVi (As := [.int (Y_28.1 kN)]) (rest := []) (c2 := 0) (s2 := 0) ⟨hx, hb, hml, hown, hts⟩ (k_X3_yes l D cI cT w_28 H.size m A (fun t => oI (tx t)) (kI kp) (fun r => (rs r).1) (fun r => nI (rs r).2.length) fI kp.length cd pl XD Y_28 Z_28 XO XB (Y_28.1 kN) hR) (cwV 1 hts gX3_pointAt_X3_yes rfl rfl rfl (by decide +kernel) ⟨Nat.le_of_ble_eq_true rfl, Nat.le_of_ble_eq_true rfl⟩) gK_ok hK hW (wd_recv (ci := 3) hK.1 hW rfl hR.1) hS hA rfl hl.1 rfl (Nat.le_of_ble_eq_true rfl) dX3_pointAt_52 ⟨Nat.le_of_ble_eq_true rfl, Nat.le_of_ble_eq_true rfl⟩ rfl rfl (fun r_52 w_52 H locs hp_52 hW hz hS => ?_)
            obtain ⟨q_r, hR⟩ := hp_52
            subst r_52
            refine lv_goto (tgt := 63) hx hb dX3_pointAt_55 (by decide) ?_
            refine wd_iret hx hb hr hlocks hW hS dX3_pointAt_63 ?_
            have e9 : s_pointAt (cd, pl, df, tx, kp, rs) (nI tN) (nI kN) = (Y_28.1 kN, 0, pl, df, tx, kp, rs) := by simp only [s_pointAt, if_neg c_4, s_w1, s_no, s_yes, if_neg hkd, ← hYc_28, if_neg c_42, hcl_t, hcl_k, htx_12]; rw [← hY_28, lf, rl_getD hkN]
            show _ = (s_pointAt (cd, pl, df, tx, kp, rs) (nI tN) (nI kN)).1 ∧ InvR cI m (s_pointAt (cd, pl, df, tx, kp, rs) (nI tN) (nI kN)).2 _
            rw [e9]
            exact ⟨rfl, A, fI, XD, Y_28, Z_28, XO, XB, hR, hdf, hit⟩
        ·
          exact absurd rfl c_17
  ·
    have c_4 := nt_of (j_b0 c_4)
    refine lv_ldc (v := (-2000000001)) hx hb hown (hts (.constant RX3 107 (-2000000001)) (by decide +kernel)) dX3_pointAt_7 ?_
    refine wd_iret hx hb hr hlocks hW hS dX3_pointAt_9 ?_
    have e9 : s_pointAt (cd, pl, df, tx, kp, rs) t k = ((-2000000001), cd, pl, df, tx, kp, rs) := by simp only [s_pointAt, if_pos c_4, s_w1, s_no, s_yes]
    show _ = (s_pointAt (cd, pl, df, tx, kp, rs) t k).1 ∧ InvR cI m (s_pointAt (cd, pl, df, tx, kp, rs) t k).2 _
    rw [e9]
    exact ⟨rfl, A, fI, XD, XP, XU, XO, XB, hR, hdf, hit⟩
set_option maxHeartbeats 4000000 in
set_option maxRecDepth 100000 in
theorem k_X3_unit (l : Launch) (D : va_G) (cI cT : ClassId) (w : Wd) (sz : Nat) (m : Nat) (cd : Int32) (pl : Int32) (df : List Int32) (tx : Nat → Option Nat) (kp : List Nat) (rs : Rws) (u : Int32) (hwf : WF (cd, pl, df, tx, kp, rs)) (hI : InvR cI m (cd, pl, df, tx, kp, rs) w) : wd_Mi l D vwCl (gK D cI cT) yX3_unit wsX3_unit (wd_rm 1 0 0) [.ref m, .int u] w sz (fun r w' => r = (s_unit (cd, pl, df, tx, kp, rs) u).1 ∧ InvR cI m (s_unit (cd, pl, df, tx, kp, rs) u).2 w') := by
  refine wd_met (cc := cX3_unit) (maxL := 2) (ret := (some .int)) (by decide) rfl (Nat.le_of_ble_eq_true rfl) ?_
  intro pg ev sg mi bl mt cde ls C0 hsz hK hW hl
  obtain ⟨hx, hb, hr, hml, hown, hts, hlocks, hnm⟩ := C0
  subst hsz
  have hown : sg.vm.findClass RX3 = some mi.cls := hown
  have hS : va_S (wd_A w sg.heap.size) sg.heap sg.heap [] := va_S.rf
  have hA : ∀ q, sg.heap.size ≤ q → wd_A w sg.heap.size q := fun q h => Or.inr h
  have hl : lv_has ls 2 [(0, .ref m), (1, .int u)] := hl
  obtain ⟨A, fI, XD, XP, XU, XO, XB, hR, hdf, hit⟩ := hI
  dsimp only at hR hdf hit
  have h10 : ∀ t, 10 ≤ t → tx t = none := hwf.2.1
  have hkp : kp.length ≤ 12 := hwf.2.2.1
  have hlv : ∀ t r, tx t = some r → r < 24 := fun t r h => (hwf.2.2.2.1 r (Or.inl ⟨t, h⟩)).1
  have hok : ∀ t r, tx t = some r → rOK (rs r) := fun t r h => (hwf.2.2.2.1 r (Or.inl ⟨t, h⟩)).2
  have hk24 : ∀ r ∈ kp, r < 24 := fun r h => (hwf.2.2.2.1 r (Or.inr h)).1
  have hdl : df.length = XD.2 := by rw [← hdf, rl_len]
  have hd60 : df.length ≤ 60 := hwf.1.1
  refine lv_iload_n hx hb dX3_unit_0 rfl (lv_at hl 1 rfl) ?_
  refine lv_iconst (v := 0) hx hb dX3_unit_1 (by decide) ?_
  refine lv_ldc (v := 65535) hx hb hown (hts (.constant RX3 111 65535) (by decide +kernel)) dX3_unit_2 ?_
  refine wd_callSi (As := [.int u, .int 0, .int 65535]) (rest := []) (c2 := 0) (s2 := 0) ⟨hx, hb, hml, hown, hts⟩ (k_X3_within l D cI cT w sg.heap.size u 0 65535 ) (va_cwS 3 hts gX3_unit_X3_within rfl rfl rfl (by decide +kernel) ⟨Nat.le_of_ble_eq_true rfl, Nat.le_of_ble_eq_true rfl⟩) gK_ok hK hW hS hA rfl hl.1 rfl (Nat.le_of_ble_eq_true rfl) dX3_unit_4 ⟨Nat.le_of_ble_eq_true rfl, Nat.le_of_ble_eq_true rfl⟩ rfl rfl (fun r_4 w_4 H locs hp_4 hW hz hS => ?_)
  obtain ⟨q_r, q_w⟩ := hp_4
  subst r_4
  subst w_4
  refine lv_if_ne (tgt := 13) hx hb dX3_unit_7 (by decide) (fun c_7 => ?_) (fun c_7 => ?_)
  ·
    have c_7 := (w_unit u).mp (j_bn c_7)
    refine lv_aload_n hx hb dX3_unit_13 rfl (lv_at hl 0 rfl) ?_
    refine wd_get (ci := 3) (v := .int (nI XD.2)) (C := RX3) (T := TX3) (N := 18) hx hb hts (by decide +kernel) hown hK.1 hW hR.1 rfl 7 (by decide) (hts (.fieldLink RX3 108 "CharRowsModel" "drafted" "I") (by decide +kernel)) (fun _ h9 => h9) rfl dX3_unit_14 ?_
    refine lv_bipush (v := 60) hx hb dX3_unit_17 (by decide) ?_
    refine lv_icmp_ne (tgt := 29) hx hb dX3_unit_19 (by decide) (fun c_19 => ?_) (fun c_19 => ?_)
    ·
      have c_19 : ¬ (XD.2 = 60) := fun q9 => absurd ((nI_eq (by omega) (by omega)).mpr q9) (show ¬ (nI XD.2 = nI 60) from c_19)
      refine lv_aload_n hx hb dX3_unit_29 rfl (lv_at hl 0 rfl) ?_
      refine wd_get (ci := 3) (v := .ref (A 5)) (C := RX3) (T := TX3) (N := 18) hx hb hts (by decide +kernel) hown hK.1 hW hR.1 rfl 6 (by decide) (hts (.fieldLink RX3 25 "CharRowsModel" "draft" "[I") (by decide +kernel)) (fun _ h9 => h9) rfl dX3_unit_30 ?_
      refine lv_aload_n hx hb dX3_unit_33 rfl (lv_at hl 0 rfl) ?_
      refine wd_get (ci := 3) (v := .int (nI XD.2)) (C := RX3) (T := TX3) (N := 18) hx hb hts (by decide +kernel) hown hK.1 hW hR.1 rfl 7 (by decide) (hts (.fieldLink RX3 108 "CharRowsModel" "drafted" "I") (by decide +kernel)) (fun _ h9 => h9) rfl dX3_unit_34 ?_
      refine lv_iload_n hx hb dX3_unit_37 rfl (lv_at hl 1 rfl) ?_
      refine wd_iast hx hb hK.1 hW hS 0 hR.2.2.2.2.2.2.1 rfl (vp_in_nI (by omega) (by omega)) dX3_unit_38 (fun H locs hW hS => ?_)
      rw [nI_clamp (by omega)] at hW
      obtain ⟨w_v1, hW, hR⟩ : ∃ w', wd_P D vwCl (wd_A w sg.heap.size) w' H ∧ rW cI m A (fun t => oI (tx t)) (kI kp) (fun r => (rs r).1) (fun r => nI (rs r).2.length) fI kp.length cd pl ((upd XD.1 XD.2 u), XD.2) XP XU XO XB w' := ⟨_, hW, hR.aXD (upd XD.1 XD.2 u)⟩
      refine lv_aload_n hx hb dX3_unit_39 rfl (lv_at hl 0 rfl) ?_
      refine lv_dup hx hb dX3_unit_40 rfl ?_
      refine wd_get (ci := 3) (v := .int (nI XD.2)) (C := RX3) (T := TX3) (N := 18) hx hb hts (by decide +kernel) hown hK.1 hW hR.1 rfl 7 (by decide) (hts (.fieldLink RX3 108 "CharRowsModel" "drafted" "I") (by decide +kernel)) (fun _ h9 => h9) rfl dX3_unit_41 ?_
      refine lv_iconst (v := 1) hx hb dX3_unit_44 (by decide) ?_
      refine lv_iadd hx hb dX3_unit_45 ?_
      refine wd_topE (y := nI (XD.2 + 1)) (nI_1 _) ?_
      refine wd_put (ci := 3) (v := .int (nI (XD.2 + 1))) (ty := .int) (C := RX3) (T := TX3) (N := 18) hx hb hts (by decide +kernel) tyX3 tyX3_ok nmX3 hown hK.1 hW hS hR.1 rfl 7 (by decide) (hts (.fieldLink RX3 108 "CharRowsModel" "drafted" "I") (by decide +kernel)) (fun _ h9 => h9) rfl (by decide +kernel) rfl rfl (Nat.le_of_ble_eq_true rfl) dX3_unit_46 (fun H locs hW hS => ?_)
      obtain ⟨w_v2, hW, hR⟩ : ∃ w', wd_P D vwCl (wd_A w sg.heap.size) w' H ∧ rW cI m A (fun t => oI (tx t)) (kI kp) (fun r => (rs r).1) (fun r => nI (rs r).2.length) fI kp.length cd pl ((upd XD.1 XD.2 u), XD.2 + 1) XP XU XO XB w' := ⟨_, hW, hR.cXD (XD.2 + 1)⟩
      have hdf2 : rl (upd XD.1 XD.2 u, XD.2 + 1) = df ++ [u] := by have q := rl_add (n := 60) (x := u) (X := XD) (by omega); rw [r_add, if_pos (by omega)] at q; rw [q, hdf]
      refine lv_aload_n hx hb dX3_unit_49 rfl (lv_at hl 0 rfl) ?_
      refine lv_aload_n hx hb dX3_unit_50 rfl (lv_at hl 0 rfl) ?_
      refine wd_get (ci := 3) (v := .int (nI (XD.2 + 1))) (C := RX3) (T := TX3) (N := 18) hx hb hts (by decide +kernel) hown hK.1 hW hR.1 rfl 7 (by decide) (hts (.fieldLink RX3 108 "CharRowsModel" "drafted" "I") (by decide +kernel)) (fun _ h9 => h9) rfl dX3_unit_51 ?_
      refine wd_callVi (As := [.int (nI (XD.2 + 1))]) (rest := []) (c2 := 0) (s2 := 0) ⟨hx, hb, hml, hown, hts⟩ (k_X3_yes l D cI cT w_v2 H.size m A (fun t => oI (tx t)) (kI kp) (fun r => (rs r).1) (fun r => nI (rs r).2.length) fI kp.length cd pl ((upd XD.1 XD.2 u), XD.2 + 1) XP XU XO XB (nI (XD.2 + 1)) hR) (cwV 1 hts gX3_unit_X3_yes rfl rfl rfl (by decide +kernel) ⟨Nat.le_of_ble_eq_true rfl, Nat.le_of_ble_eq_true rfl⟩) gK_ok hK hW (wd_recv (ci := 3) hK.1 hW rfl hR.1) hS hA rfl hl.1 rfl (Nat.le_of_ble_eq_true rfl) dX3_unit_54 ⟨Nat.le_of_ble_eq_true rfl, Nat.le_of_ble_eq_true rfl⟩ rfl rfl (fun r_54 w_54 H locs hp_54 hW hz hS => ?_)
      obtain ⟨q_r, hR⟩ := hp_54
      subst r_54
      refine wd_iret hx hb hr hlocks hW hS dX3_unit_57 ?_
      have e9 : s_unit (cd, pl, df, tx, kp, rs) u = (nI (XD.2 + 1), 0, pl, (df ++ [u]), tx, kp, rs) := by simp only [s_unit, if_neg c_7, s_no, if_neg (show ¬ 60 ≤ df.length by omega)]; rw [List.length_append, hdl]; rfl
      show _ = (s_unit (cd, pl, df, tx, kp, rs) u).1 ∧ InvR cI m (s_unit (cd, pl, df, tx, kp, rs) u).2 _
      rw [e9]
      exact ⟨rfl, A, fI, ((upd XD.1 XD.2 u), XD.2 + 1), XP, XU, XO, XB, hR, hdf2, hit⟩
    ·
      have c_19 : XD.2 = 60 := (nI_eq (by omega) (by omega)).mp (show (nI XD.2 = nI 60) from c_19)
      refine lv_aload_n hx hb dX3_unit_22 rfl (lv_at hl 0 rfl) ?_
      refine lv_bipush (v := 6) hx hb dX3_unit_23 (by decide) ?_
      refine wd_callVi (As := [.int 6]) (rest := []) (c2 := 0) (s2 := 0) ⟨hx, hb, hml, hown, hts⟩ (k_X3_no l D cI cT w H.size m A (fun t => oI (tx t)) (kI kp) (fun r => (rs r).1) (fun r => nI (rs r).2.length) fI kp.length cd pl XD XP XU XO XB 6 hR) (cwV 1 hts gX3_unit_X3_no rfl rfl rfl (by decide +kernel) ⟨Nat.le_of_ble_eq_true rfl, Nat.le_of_ble_eq_true rfl⟩) gK_ok hK hW (wd_recv (ci := 3) hK.1 hW rfl hR.1) hS hA rfl hl.1 rfl (Nat.le_of_ble_eq_true rfl) dX3_unit_25 ⟨Nat.le_of_ble_eq_true rfl, Nat.le_of_ble_eq_true rfl⟩ rfl rfl (fun r_25 w_25 H locs hp_25 hW hz hS => ?_)
      obtain ⟨q_r, hR⟩ := hp_25
      subst r_25
      refine wd_iret hx hb hr hlocks hW hS dX3_unit_28 ?_
      have e9 : s_unit (cd, pl, df, tx, kp, rs) u = (0, 6, pl, df, tx, kp, rs) := by simp only [s_unit, if_neg c_7, s_no, if_pos (show 60 ≤ df.length by omega)]
      show _ = (s_unit (cd, pl, df, tx, kp, rs) u).1 ∧ InvR cI m (s_unit (cd, pl, df, tx, kp, rs) u).2 _
      rw [e9]
      exact ⟨rfl, A, fI, XD, XP, XU, XO, XB, hR, hdf, hit⟩
  ·
    have c_7 := w_no (w_unit u) (j_b0 c_7)
    refine lv_ldc (v := (-2000000001)) hx hb hown (hts (.constant RX3 107 (-2000000001)) (by decide +kernel)) dX3_unit_10 ?_
    refine wd_iret hx hb hr hlocks hW hS dX3_unit_12 ?_
    have e9 : s_unit (cd, pl, df, tx, kp, rs) u = ((-2000000001), cd, pl, df, tx, kp, rs) := by simp only [s_unit, if_pos c_7, s_no]
    show _ = (s_unit (cd, pl, df, tx, kp, rs) u).1 ∧ InvR cI m (s_unit (cd, pl, df, tx, kp, rs) u).2 _
    rw [e9]
    exact ⟨rfl, A, fI, XD, XP, XU, XO, XB, hR, hdf, hit⟩
set_option maxHeartbeats 4000000 in
set_option maxRecDepth 100000 in
theorem k_X3_point (l : Launch) (D : va_G) (cI cT : ClassId) (w : Wd) (sz : Nat) (m : Nat) (cd : Int32) (pl : Int32) (df : List Int32) (tx : Nat → Option Nat) (kp : List Nat) (rs : Rws) (p : Int32) (hwf : WF (cd, pl, df, tx, kp, rs)) (hI : InvR cI m (cd, pl, df, tx, kp, rs) w) : wd_Mi l D vwCl (gK D cI cT) yX3_point wsX3_point (wd_rm 2 0 0) [.ref m, .int p] w sz (fun r w' => r = (s_point (cd, pl, df, tx, kp, rs) p).1 ∧ InvR cI m (s_point (cd, pl, df, tx, kp, rs) p).2 w') := by
  refine wd_met (cc := cX3_point) (maxL := 3) (ret := (some .int)) (by decide) rfl (Nat.le_of_ble_eq_true rfl) ?_
  intro pg ev sg mi bl mt cde ls C0 hsz hK hW hl
  obtain ⟨hx, hb, hr, hml, hown, hts, hlocks, hnm⟩ := C0
  subst hsz
  have hown : sg.vm.findClass RX3 = some mi.cls := hown
  have hS : va_S (wd_A w sg.heap.size) sg.heap sg.heap [] := va_S.rf
  have hA : ∀ q, sg.heap.size ≤ q → wd_A w sg.heap.size q := fun q h => Or.inr h
  have hl : lv_has ls 3 [(0, .ref m), (1, .int p)] := hl
  obtain ⟨A, fI, XD, XP, XU, XO, XB, hR, hdf, hit⟩ := hI
  dsimp only at hR hdf hit
  have h10 : ∀ t, 10 ≤ t → tx t = none := hwf.2.1
  have hkp : kp.length ≤ 12 := hwf.2.2.1
  have hlv : ∀ t r, tx t = some r → r < 24 := fun t r h => (hwf.2.2.2.1 r (Or.inl ⟨t, h⟩)).1
  have hok : ∀ t r, tx t = some r → rOK (rs r) := fun t r h => (hwf.2.2.2.1 r (Or.inl ⟨t, h⟩)).2
  have hk24 : ∀ r ∈ kp, r < 24 := fun r h => (hwf.2.2.2.1 r (Or.inr h)).1
  have hdl : df.length = XD.2 := by rw [← hdf, rl_len]
  have hd60 : df.length ≤ 60 := hwf.1.1
  refine lv_iload_n hx hb dX3_point_0 rfl (lv_at hl 1 rfl) ?_
  refine wd_callSi (As := [.int p]) (rest := []) (c2 := 0) (s2 := 0) ⟨hx, hb, hml, hown, hts⟩ (k_X3_isPoint l D cI cT w sg.heap.size p ) (va_cwS 1 hts gX3_point_X3_isPoint rfl rfl rfl (by decide +kernel) ⟨Nat.le_of_ble_eq_true rfl, Nat.le_of_ble_eq_true rfl⟩) gK_ok hK hW hS hA rfl hl.1 rfl (Nat.le_of_ble_eq_true rfl) dX3_point_1 ⟨Nat.le_of_ble_eq_true rfl, Nat.le_of_ble_eq_true rfl⟩ rfl rfl (fun r_1 w_1 H locs hp_1 hW hz hS => ?_)
  obtain ⟨q_r, q_w⟩ := hp_1
  subst r_1
  subst w_1
  refine lv_if_ne (tgt := 10) hx hb dX3_point_4 (by decide) (fun c_4 => ?_) (fun c_4 => ?_)
  ·
    have c_4 := (show (¬ j_noPoint p) ↔ ¬ j_noPoint p from Iff.rfl).mp (j_bn c_4)
    refine lv_aload_n hx hb dX3_point_10 rfl (lv_at hl 0 rfl) ?_
    refine wd_get (ci := 3) (v := .int (nI XD.2)) (C := RX3) (T := TX3) (N := 18) hx hb hts (by decide +kernel) hown hK.1 hW hR.1 rfl 7 (by decide) (hts (.fieldLink RX3 108 "CharRowsModel" "drafted" "I") (by decide +kernel)) (fun _ h9 => h9) rfl dX3_point_11 ?_
    refine lv_iload_n hx hb dX3_point_14 rfl (lv_at hl 1 rfl) ?_
    refine lv_ldc (v := 65536) hx hb hown (hts (.constant RX3 70 65536) (by decide +kernel)) dX3_point_15 ?_
    refine lv_icmp_ge (tgt := 24) hx hb dX3_point_17 (by decide) (fun c_17 => ?_) (fun c_17 => ?_)
    ·
      simp only [i_le, Decidable.not_not] at c_17
      have hul : (u_units p).length = 2 := by rw [u_units_len, if_neg c_17]
      refine lv_iconst (v := 2) hx hb dX3_point_24 (by decide) ?_
      refine lv_iadd hx hb dX3_point_25 ?_
      refine wd_topE (y := nI (XD.2 + 2)) (show nI XD.2 + nI _ = _ from nI_add _ _) ?_
      refine lv_bipush (v := 60) hx hb dX3_point_26 (by decide) ?_
      refine lv_icmp_le (tgt := 38) hx hb dX3_point_28 (by decide) (fun c_28 => ?_) (fun c_28 => ?_)
      ·
        have c_28 : XD.2 + 2 ≤ 60 := (nI_leI (by omega) (by omega)).mp (show (nI (XD.2 + 2) ≤ nI 60) from c_28)
        refine lv_aload_n hx hb dX3_point_38 rfl (lv_at hl 0 rfl) ?_
        refine lv_iconst (v := 0) hx hb dX3_point_39 (by decide) ?_
        refine wd_put (ci := 3) (v := .int 0) (ty := .int) (C := RX3) (T := TX3) (N := 18) hx hb hts (by decide +kernel) tyX3 tyX3_ok nmX3 hown hK.1 hW hS hR.1 rfl 13 (by decide) (hts (.fieldLink RX3 71 "CharRowsModel" "unitMany" "I") (by decide +kernel)) (fun _ h9 => h9) rfl (by decide +kernel) rfl rfl (Nat.le_of_ble_eq_true rfl) dX3_point_40 (fun H locs hW hS => ?_)
        obtain ⟨w_v1, hW, hR⟩ : ∃ w', wd_P D vwCl (wd_A w sg.heap.size) w' H ∧ rW cI m A (fun t => oI (tx t)) (kI kp) (fun r => (rs r).1) (fun r => nI (rs r).2.length) fI kp.length cd pl XD XP (XU.1, 0) XO XB w' := ⟨_, hW, hR.cXU 0⟩
        refine lv_aload_n hx hb dX3_point_43 rfl (lv_at hl 0 rfl) ?_
        refine lv_iload_n hx hb dX3_point_44 rfl (lv_at hl 1 rfl) ?_
        refine wd_callVv (As := [.int p]) (rest := []) (c2 := 0) (s2 := 0) ⟨hx, hb, hml, hown, hts⟩ (k_X3_addUnits l D cI cT w_v1 H.size m A (fun t => oI (tx t)) (kI kp) (fun r => (rs r).1) (fun r => nI (rs r).2.length) fI kp.length cd pl XD XP (XU.1, 0) XO XB p hR (by omega)) (cwV 1 hts gX3_point_X3_addUnits rfl rfl rfl (by decide +kernel) ⟨Nat.le_of_ble_eq_true rfl, Nat.le_of_ble_eq_true rfl⟩) gK_ok hK hW (wd_recv (ci := 3) hK.1 hW rfl hR.1) hS hA rfl hl.1 rfl (Nat.le_of_ble_eq_true rfl) dX3_point_45 ⟨Nat.le_of_ble_eq_true rfl, Nat.le_of_ble_eq_true rfl⟩ rfl rfl (fun w_45 H locs hp_45 hW hz hS => ?_)
        have hR := hp_45
        have hun : rl (r_uni 480 p (XU.1, 0)) = u_units p := by rw [rl_uni (by show 0 + _ ≤ 480; omega)]; rfl
        have hunc := rl_cnt hun
        refine lv_iconst (v := 0) hx hb dX3_point_48 (by decide) ?_
        refine lv_istore_n (lv' := [(2, .int 0), (0, .ref m), (1, .int p)]) hx hb dX3_point_49 rfl hl (by decide) rfl (fun ls hl => ?_)
        refine wd_loop1 (fun (k : Nat) (H : Heap) (locs : List Loc) (ls : Array Slot) => (k ≤ (r_uni 480 p (XU.1, 0)).2) ∧ (∃ w', wd_P D vwCl (wd_A w sg.heap.size) w' H ∧ rW cI m A (fun t => oI (tx t)) (kI kp) (fun r => (rs r).1) (fun r => nI (rs r).2.length) fI kp.length cd pl (itN (fun k Y => r_add 60 ((r_uni 480 p (XU.1, 0)).1 k) Y) k XD) XP (r_uni 480 p (XU.1, 0)) XO XB w') ∧ va_S (wd_A w sg.heap.size) sg.heap H locs ∧ lv_has ls 3 [(0, .ref m), (1, .int p), (2, .int (nI k))]) (fun (k : Nat) => (r_uni 480 p (XU.1, 0)).2 - k) 0 ⟨(by omega), ⟨_, hW, hR⟩, hS, (lv_sub hl [1, 2, 0] rfl)⟩ (fun k H locs ls hI ih_50 => ?_)
        obtain ⟨hk, ⟨w_l50, hW, hR⟩, hS, hl⟩ := hI
        obtain ⟨hpt1, hpt2⟩ := rl_pt (X := XD) (U := (r_uni 480 p (XU.1, 0))) (k := k) (by omega) (by omega)
        refine lv_iload_n hx hb dX3_point_50 rfl (lv_at hl 2 rfl) ?_
        refine lv_aload_n hx hb dX3_point_51 rfl (lv_at hl 0 rfl) ?_
        refine wd_get (ci := 3) (v := .int (nI ((r_uni 480 p (XU.1, 0)).2))) (C := RX3) (T := TX3) (N := 18) hx hb hts (by decide +kernel) hown hK.1 hW hR.1 rfl 13 (by decide) (hts (.fieldLink RX3 71 "CharRowsModel" "unitMany" "I") (by decide +kernel)) (fun _ h9 => h9) rfl dX3_point_52 ?_
        refine lv_icmp_ge (tgt := 89) hx hb dX3_point_55 (by decide) (fun c_55 => ?_) (fun c_55 => ?_)
        ·
          have c_55 : (r_uni 480 p (XU.1, 0)).2 ≤ k := (nI_leI (by omega) (by omega)).mp (show (nI ((r_uni 480 p (XU.1, 0)).2) ≤ nI k) from c_55)
          have hdf2 : rl (itN (fun k Y => r_add 60 ((r_uni 480 p (XU.1, 0)).1 k) Y) k XD) = df ++ u_units p := by rw [hpt1, hdf, hun, List.take_of_length_le (by omega)]
          refine lv_aload_n hx hb dX3_point_89 rfl (lv_at hl 0 rfl) ?_
          refine lv_aload_n hx hb dX3_point_90 rfl (lv_at hl 0 rfl) ?_
          refine wd_get (ci := 3) (v := .int (nI ((itN (fun k Y => r_add 60 ((r_uni 480 p (XU.1, 0)).1 k) Y) k XD).2))) (C := RX3) (T := TX3) (N := 18) hx hb hts (by decide +kernel) hown hK.1 hW hR.1 rfl 7 (by decide) (hts (.fieldLink RX3 108 "CharRowsModel" "drafted" "I") (by decide +kernel)) (fun _ h9 => h9) rfl dX3_point_91 ?_
          refine wd_callVi (As := [.int (nI ((itN (fun k Y => r_add 60 ((r_uni 480 p (XU.1, 0)).1 k) Y) k XD).2))]) (rest := []) (c2 := 0) (s2 := 0) ⟨hx, hb, hml, hown, hts⟩ (k_X3_yes l D cI cT w_l50 H.size m A (fun t => oI (tx t)) (kI kp) (fun r => (rs r).1) (fun r => nI (rs r).2.length) fI kp.length cd pl (itN (fun k Y => r_add 60 ((r_uni 480 p (XU.1, 0)).1 k) Y) k XD) XP (r_uni 480 p (XU.1, 0)) XO XB (nI ((itN (fun k Y => r_add 60 ((r_uni 480 p (XU.1, 0)).1 k) Y) k XD).2)) hR) (cwV 1 hts gX3_point_X3_yes rfl rfl rfl (by decide +kernel) ⟨Nat.le_of_ble_eq_true rfl, Nat.le_of_ble_eq_true rfl⟩) gK_ok hK hW (wd_recv (ci := 3) hK.1 hW rfl hR.1) hS hA rfl hl.1 rfl (Nat.le_of_ble_eq_true rfl) dX3_point_94 ⟨Nat.le_of_ble_eq_true rfl, Nat.le_of_ble_eq_true rfl⟩ rfl rfl (fun r_94 w_94 H locs hp_94 hW hz hS => ?_)
          obtain ⟨q_r, hR⟩ := hp_94
          subst r_94
          refine wd_iret hx hb hr hlocks hW hS dX3_point_97 ?_
          have e9 : s_point (cd, pl, df, tx, kp, rs) p = (nI ((itN (fun k Y => r_add 60 ((r_uni 480 p (XU.1, 0)).1 k) Y) k XD).2), 0, pl, (df ++ u_units p), tx, kp, rs) := by simp only [s_point, if_neg c_4, s_no, if_neg (show ¬ 60 < df.length + (u_units p).length by omega)]; rw [List.length_append, hdl, show XD.2 + (u_units p).length = (itN (fun k Y => r_add 60 ((r_uni 480 p (XU.1, 0)).1 k) Y) k XD).2 by omega]
          show _ = (s_point (cd, pl, df, tx, kp, rs) p).1 ∧ InvR cI m (s_point (cd, pl, df, tx, kp, rs) p).2 _
          rw [e9]
          exact ⟨rfl, A, fI, (itN (fun k Y => r_add 60 ((r_uni 480 p (XU.1, 0)).1 k) Y) k XD), XP, (r_uni 480 p (XU.1, 0)), XO, XB, hR, hdf2, hit⟩
        ·
          have c_55 : ¬ ((r_uni 480 p (XU.1, 0)).2 ≤ k) := fun q9 => absurd ((nI_leI (by omega) (by omega)).mpr q9) (show ¬ (nI ((r_uni 480 p (XU.1, 0)).2) ≤ nI k) from c_55)
          refine lv_aload_n hx hb dX3_point_58 rfl (lv_at hl 0 rfl) ?_
          refine wd_get (ci := 3) (v := .ref (A 5)) (C := RX3) (T := TX3) (N := 18) hx hb hts (by decide +kernel) hown hK.1 hW hR.1 rfl 6 (by decide) (hts (.fieldLink RX3 25 "CharRowsModel" "draft" "[I") (by decide +kernel)) (fun _ h9 => h9) rfl dX3_point_59 ?_
          refine lv_aload_n hx hb dX3_point_62 rfl (lv_at hl 0 rfl) ?_
          refine wd_get (ci := 3) (v := .int (nI ((itN (fun k Y => r_add 60 ((r_uni 480 p (XU.1, 0)).1 k) Y) k XD).2))) (C := RX3) (T := TX3) (N := 18) hx hb hts (by decide +kernel) hown hK.1 hW hR.1 rfl 7 (by decide) (hts (.fieldLink RX3 108 "CharRowsModel" "drafted" "I") (by decide +kernel)) (fun _ h9 => h9) rfl dX3_point_63 ?_
          refine lv_aload_n hx hb dX3_point_66 rfl (lv_at hl 0 rfl) ?_
          refine wd_get (ci := 3) (v := .ref (A 7)) (C := RX3) (T := TX3) (N := 18) hx hb hts (by decide +kernel) hown hK.1 hW hR.1 rfl 12 (by decide) (hts (.fieldLink RX3 35 "CharRowsModel" "units" "[I") (by decide +kernel)) (fun _ h9 => h9) rfl dX3_point_67 ?_
          refine lv_iload_n hx hb dX3_point_70 rfl (lv_at hl 2 rfl) ?_
          refine wd_iald hx hb hK.1 hW 0 hR.2.2.2.2.2.2.2.2.1 rfl (vp_in_nI (by omega) (by omega)) dX3_point_71 ?_
          refine wd_topE (y := (r_uni 480 p (XU.1, 0)).1 k) (by rw [nI_clamp (by omega)]) ?_
          refine wd_iast hx hb hK.1 hW hS 0 hR.2.2.2.2.2.2.1 rfl (vp_in_nI (by omega) (by omega)) dX3_point_72 (fun H locs hW hS => ?_)
          rw [nI_clamp (by omega)] at hW
          obtain ⟨w_v2, hW, hR⟩ : ∃ w', wd_P D vwCl (wd_A w sg.heap.size) w' H ∧ rW cI m A (fun t => oI (tx t)) (kI kp) (fun r => (rs r).1) (fun r => nI (rs r).2.length) fI kp.length cd pl ((upd ((itN (fun k Y => r_add 60 ((r_uni 480 p (XU.1, 0)).1 k) Y) k XD).1) ((itN (fun k Y => r_add 60 ((r_uni 480 p (XU.1, 0)).1 k) Y) k XD).2) ((r_uni 480 p (XU.1, 0)).1 k)), (itN (fun k Y => r_add 60 ((r_uni 480 p (XU.1, 0)).1 k) Y) k XD).2) XP (r_uni 480 p (XU.1, 0)) XO XB w' := ⟨_, hW, hR.aXD (upd ((itN (fun k Y => r_add 60 ((r_uni 480 p (XU.1, 0)).1 k) Y) k XD).1) ((itN (fun k Y => r_add 60 ((r_uni 480 p (XU.1, 0)).1 k) Y) k XD).2) ((r_uni 480 p (XU.1, 0)).1 k))⟩
          refine lv_aload_n hx hb dX3_point_73 rfl (lv_at hl 0 rfl) ?_
          refine lv_dup hx hb dX3_point_74 rfl ?_
          refine wd_get (ci := 3) (v := .int (nI ((itN (fun k Y => r_add 60 ((r_uni 480 p (XU.1, 0)).1 k) Y) k XD).2))) (C := RX3) (T := TX3) (N := 18) hx hb hts (by decide +kernel) hown hK.1 hW hR.1 rfl 7 (by decide) (hts (.fieldLink RX3 108 "CharRowsModel" "drafted" "I") (by decide +kernel)) (fun _ h9 => h9) rfl dX3_point_75 ?_
          refine lv_iconst (v := 1) hx hb dX3_point_78 (by decide) ?_
          refine lv_iadd hx hb dX3_point_79 ?_
          refine wd_topE (y := nI ((itN (fun k Y => r_add 60 ((r_uni 480 p (XU.1, 0)).1 k) Y) k XD).2 + 1)) (nI_1 _) ?_
          refine wd_put (ci := 3) (v := .int (nI ((itN (fun k Y => r_add 60 ((r_uni 480 p (XU.1, 0)).1 k) Y) k XD).2 + 1))) (ty := .int) (C := RX3) (T := TX3) (N := 18) hx hb hts (by decide +kernel) tyX3 tyX3_ok nmX3 hown hK.1 hW hS hR.1 rfl 7 (by decide) (hts (.fieldLink RX3 108 "CharRowsModel" "drafted" "I") (by decide +kernel)) (fun _ h9 => h9) rfl (by decide +kernel) rfl rfl (Nat.le_of_ble_eq_true rfl) dX3_point_80 (fun H locs hW hS => ?_)
          obtain ⟨w_v3, hW, hR⟩ : ∃ w', wd_P D vwCl (wd_A w sg.heap.size) w' H ∧ rW cI m A (fun t => oI (tx t)) (kI kp) (fun r => (rs r).1) (fun r => nI (rs r).2.length) fI kp.length cd pl ((upd ((itN (fun k Y => r_add 60 ((r_uni 480 p (XU.1, 0)).1 k) Y) k XD).1) ((itN (fun k Y => r_add 60 ((r_uni 480 p (XU.1, 0)).1 k) Y) k XD).2) ((r_uni 480 p (XU.1, 0)).1 k)), (itN (fun k Y => r_add 60 ((r_uni 480 p (XU.1, 0)).1 k) Y) k XD).2 + 1) XP (r_uni 480 p (XU.1, 0)) XO XB w' := ⟨_, hW, hR.cXD ((itN (fun k Y => r_add 60 ((r_uni 480 p (XU.1, 0)).1 k) Y) k XD).2 + 1)⟩
          refine lv_iinc (v := nI (k + 1)) (lv' := [(2, .int (nI (k + 1))), (0, .ref m), (1, .int p)]) hx hb dX3_point_83 hl (k := 2) rfl (nI_add k 1) (by decide) rfl (fun ls hl => ?_)
          refine lv_goto (tgt := 50) hx hb dX3_point_86 (by decide) ?_
          exact ih_50 (k + 1) H locs ls ⟨(by omega), ⟨_, hW, (by rw [show itN (fun k Y => r_add 60 ((r_uni 480 p (XU.1, 0)).1 k) Y) (k + 1) XD = _ from by (show r_add 60 _ _ = _; rw [r_add, if_pos (by omega)])]; exact hR)⟩, hS, (lv_sub hl [1, 2, 0] rfl)⟩ (by omega)
      ·
        have c_28 : ¬ (XD.2 + 2 ≤ 60) := fun q9 => absurd ((nI_leI (by omega) (by omega)).mpr q9) (show ¬ (nI (XD.2 + 2) ≤ nI 60) from c_28)
        refine lv_aload_n hx hb dX3_point_31 rfl (lv_at hl 0 rfl) ?_
        refine lv_bipush (v := 6) hx hb dX3_point_32 (by decide) ?_
        refine wd_callVi (As := [.int 6]) (rest := []) (c2 := 0) (s2 := 0) ⟨hx, hb, hml, hown, hts⟩ (k_X3_no l D cI cT w H.size m A (fun t => oI (tx t)) (kI kp) (fun r => (rs r).1) (fun r => nI (rs r).2.length) fI kp.length cd pl XD XP XU XO XB 6 hR) (cwV 1 hts gX3_point_X3_no rfl rfl rfl (by decide +kernel) ⟨Nat.le_of_ble_eq_true rfl, Nat.le_of_ble_eq_true rfl⟩) gK_ok hK hW (wd_recv (ci := 3) hK.1 hW rfl hR.1) hS hA rfl hl.1 rfl (Nat.le_of_ble_eq_true rfl) dX3_point_34 ⟨Nat.le_of_ble_eq_true rfl, Nat.le_of_ble_eq_true rfl⟩ rfl rfl (fun r_34 w_34 H locs hp_34 hW hz hS => ?_)
        obtain ⟨q_r, hR⟩ := hp_34
        subst r_34
        refine wd_iret hx hb hr hlocks hW hS dX3_point_37 ?_
        have e9 : s_point (cd, pl, df, tx, kp, rs) p = (0, 6, pl, df, tx, kp, rs) := by simp only [s_point, if_neg c_4, s_no, if_pos (show 60 < df.length + (u_units p).length by omega)]
        show _ = (s_point (cd, pl, df, tx, kp, rs) p).1 ∧ InvR cI m (s_point (cd, pl, df, tx, kp, rs) p).2 _
        rw [e9]
        exact ⟨rfl, A, fI, XD, XP, XU, XO, XB, hR, hdf, hit⟩
    ·
      simp only [i_le, Decidable.not_not] at c_17
      have hul : (u_units p).length = 1 := by rw [u_units_len, if_pos c_17]
      refine lv_iconst (v := 1) hx hb dX3_point_20 (by decide) ?_
      refine lv_goto (tgt := 25) hx hb dX3_point_21 (by decide) ?_
      refine lv_iadd hx hb dX3_point_25 ?_
      refine wd_topE (y := nI (XD.2 + 1)) (show nI XD.2 + nI _ = _ from nI_add _ _) ?_
      refine lv_bipush (v := 60) hx hb dX3_point_26 (by decide) ?_
      refine lv_icmp_le (tgt := 38) hx hb dX3_point_28 (by decide) (fun c_28 => ?_) (fun c_28 => ?_)
      ·
        have c_28 : XD.2 + 1 ≤ 60 := (nI_leI (by omega) (by omega)).mp (show (nI (XD.2 + 1) ≤ nI 60) from c_28)
        refine lv_aload_n hx hb dX3_point_38 rfl (lv_at hl 0 rfl) ?_
        refine lv_iconst (v := 0) hx hb dX3_point_39 (by decide) ?_
        refine wd_put (ci := 3) (v := .int 0) (ty := .int) (C := RX3) (T := TX3) (N := 18) hx hb hts (by decide +kernel) tyX3 tyX3_ok nmX3 hown hK.1 hW hS hR.1 rfl 13 (by decide) (hts (.fieldLink RX3 71 "CharRowsModel" "unitMany" "I") (by decide +kernel)) (fun _ h9 => h9) rfl (by decide +kernel) rfl rfl (Nat.le_of_ble_eq_true rfl) dX3_point_40 (fun H locs hW hS => ?_)
        obtain ⟨w_v4, hW, hR⟩ : ∃ w', wd_P D vwCl (wd_A w sg.heap.size) w' H ∧ rW cI m A (fun t => oI (tx t)) (kI kp) (fun r => (rs r).1) (fun r => nI (rs r).2.length) fI kp.length cd pl XD XP (XU.1, 0) XO XB w' := ⟨_, hW, hR.cXU 0⟩
        refine lv_aload_n hx hb dX3_point_43 rfl (lv_at hl 0 rfl) ?_
        refine lv_iload_n hx hb dX3_point_44 rfl (lv_at hl 1 rfl) ?_
        refine wd_callVv (As := [.int p]) (rest := []) (c2 := 0) (s2 := 0) ⟨hx, hb, hml, hown, hts⟩ (k_X3_addUnits l D cI cT w_v4 H.size m A (fun t => oI (tx t)) (kI kp) (fun r => (rs r).1) (fun r => nI (rs r).2.length) fI kp.length cd pl XD XP (XU.1, 0) XO XB p hR (by omega)) (cwV 1 hts gX3_point_X3_addUnits rfl rfl rfl (by decide +kernel) ⟨Nat.le_of_ble_eq_true rfl, Nat.le_of_ble_eq_true rfl⟩) gK_ok hK hW (wd_recv (ci := 3) hK.1 hW rfl hR.1) hS hA rfl hl.1 rfl (Nat.le_of_ble_eq_true rfl) dX3_point_45 ⟨Nat.le_of_ble_eq_true rfl, Nat.le_of_ble_eq_true rfl⟩ rfl rfl (fun w_45 H locs hp_45 hW hz hS => ?_)
        have hR := hp_45
        have hun : rl (r_uni 480 p (XU.1, 0)) = u_units p := by rw [rl_uni (by show 0 + _ ≤ 480; omega)]; rfl
        have hunc := rl_cnt hun
        refine lv_iconst (v := 0) hx hb dX3_point_48 (by decide) ?_
        refine lv_istore_n (lv' := [(2, .int 0), (0, .ref m), (1, .int p)]) hx hb dX3_point_49 rfl hl (by decide) rfl (fun ls hl => ?_)
        refine wd_loop1 (fun (k : Nat) (H : Heap) (locs : List Loc) (ls : Array Slot) => (k ≤ (r_uni 480 p (XU.1, 0)).2) ∧ (∃ w', wd_P D vwCl (wd_A w sg.heap.size) w' H ∧ rW cI m A (fun t => oI (tx t)) (kI kp) (fun r => (rs r).1) (fun r => nI (rs r).2.length) fI kp.length cd pl (itN (fun k Y => r_add 60 ((r_uni 480 p (XU.1, 0)).1 k) Y) k XD) XP (r_uni 480 p (XU.1, 0)) XO XB w') ∧ va_S (wd_A w sg.heap.size) sg.heap H locs ∧ lv_has ls 3 [(0, .ref m), (1, .int p), (2, .int (nI k))]) (fun (k : Nat) => (r_uni 480 p (XU.1, 0)).2 - k) 0 ⟨(by omega), ⟨_, hW, hR⟩, hS, (lv_sub hl [1, 2, 0] rfl)⟩ (fun k H locs ls hI ih_50 => ?_)
        obtain ⟨hk, ⟨w_l50, hW, hR⟩, hS, hl⟩ := hI
        obtain ⟨hpt1, hpt2⟩ := rl_pt (X := XD) (U := (r_uni 480 p (XU.1, 0))) (k := k) (by omega) (by omega)
        refine lv_iload_n hx hb dX3_point_50 rfl (lv_at hl 2 rfl) ?_
        refine lv_aload_n hx hb dX3_point_51 rfl (lv_at hl 0 rfl) ?_
        refine wd_get (ci := 3) (v := .int (nI ((r_uni 480 p (XU.1, 0)).2))) (C := RX3) (T := TX3) (N := 18) hx hb hts (by decide +kernel) hown hK.1 hW hR.1 rfl 13 (by decide) (hts (.fieldLink RX3 71 "CharRowsModel" "unitMany" "I") (by decide +kernel)) (fun _ h9 => h9) rfl dX3_point_52 ?_
        refine lv_icmp_ge (tgt := 89) hx hb dX3_point_55 (by decide) (fun c_55 => ?_) (fun c_55 => ?_)
        ·
          have c_55 : (r_uni 480 p (XU.1, 0)).2 ≤ k := (nI_leI (by omega) (by omega)).mp (show (nI ((r_uni 480 p (XU.1, 0)).2) ≤ nI k) from c_55)
          have hdf2 : rl (itN (fun k Y => r_add 60 ((r_uni 480 p (XU.1, 0)).1 k) Y) k XD) = df ++ u_units p := by rw [hpt1, hdf, hun, List.take_of_length_le (by omega)]
          refine lv_aload_n hx hb dX3_point_89 rfl (lv_at hl 0 rfl) ?_
          refine lv_aload_n hx hb dX3_point_90 rfl (lv_at hl 0 rfl) ?_
          refine wd_get (ci := 3) (v := .int (nI ((itN (fun k Y => r_add 60 ((r_uni 480 p (XU.1, 0)).1 k) Y) k XD).2))) (C := RX3) (T := TX3) (N := 18) hx hb hts (by decide +kernel) hown hK.1 hW hR.1 rfl 7 (by decide) (hts (.fieldLink RX3 108 "CharRowsModel" "drafted" "I") (by decide +kernel)) (fun _ h9 => h9) rfl dX3_point_91 ?_
          refine wd_callVi (As := [.int (nI ((itN (fun k Y => r_add 60 ((r_uni 480 p (XU.1, 0)).1 k) Y) k XD).2))]) (rest := []) (c2 := 0) (s2 := 0) ⟨hx, hb, hml, hown, hts⟩ (k_X3_yes l D cI cT w_l50 H.size m A (fun t => oI (tx t)) (kI kp) (fun r => (rs r).1) (fun r => nI (rs r).2.length) fI kp.length cd pl (itN (fun k Y => r_add 60 ((r_uni 480 p (XU.1, 0)).1 k) Y) k XD) XP (r_uni 480 p (XU.1, 0)) XO XB (nI ((itN (fun k Y => r_add 60 ((r_uni 480 p (XU.1, 0)).1 k) Y) k XD).2)) hR) (cwV 1 hts gX3_point_X3_yes rfl rfl rfl (by decide +kernel) ⟨Nat.le_of_ble_eq_true rfl, Nat.le_of_ble_eq_true rfl⟩) gK_ok hK hW (wd_recv (ci := 3) hK.1 hW rfl hR.1) hS hA rfl hl.1 rfl (Nat.le_of_ble_eq_true rfl) dX3_point_94 ⟨Nat.le_of_ble_eq_true rfl, Nat.le_of_ble_eq_true rfl⟩ rfl rfl (fun r_94 w_94 H locs hp_94 hW hz hS => ?_)
          obtain ⟨q_r, hR⟩ := hp_94
          subst r_94
          refine wd_iret hx hb hr hlocks hW hS dX3_point_97 ?_
          have e9 : s_point (cd, pl, df, tx, kp, rs) p = (nI ((itN (fun k Y => r_add 60 ((r_uni 480 p (XU.1, 0)).1 k) Y) k XD).2), 0, pl, (df ++ u_units p), tx, kp, rs) := by simp only [s_point, if_neg c_4, s_no, if_neg (show ¬ 60 < df.length + (u_units p).length by omega)]; rw [List.length_append, hdl, show XD.2 + (u_units p).length = (itN (fun k Y => r_add 60 ((r_uni 480 p (XU.1, 0)).1 k) Y) k XD).2 by omega]
          show _ = (s_point (cd, pl, df, tx, kp, rs) p).1 ∧ InvR cI m (s_point (cd, pl, df, tx, kp, rs) p).2 _
          rw [e9]
          exact ⟨rfl, A, fI, (itN (fun k Y => r_add 60 ((r_uni 480 p (XU.1, 0)).1 k) Y) k XD), XP, (r_uni 480 p (XU.1, 0)), XO, XB, hR, hdf2, hit⟩
        ·
          have c_55 : ¬ ((r_uni 480 p (XU.1, 0)).2 ≤ k) := fun q9 => absurd ((nI_leI (by omega) (by omega)).mpr q9) (show ¬ (nI ((r_uni 480 p (XU.1, 0)).2) ≤ nI k) from c_55)
          refine lv_aload_n hx hb dX3_point_58 rfl (lv_at hl 0 rfl) ?_
          refine wd_get (ci := 3) (v := .ref (A 5)) (C := RX3) (T := TX3) (N := 18) hx hb hts (by decide +kernel) hown hK.1 hW hR.1 rfl 6 (by decide) (hts (.fieldLink RX3 25 "CharRowsModel" "draft" "[I") (by decide +kernel)) (fun _ h9 => h9) rfl dX3_point_59 ?_
          refine lv_aload_n hx hb dX3_point_62 rfl (lv_at hl 0 rfl) ?_
          refine wd_get (ci := 3) (v := .int (nI ((itN (fun k Y => r_add 60 ((r_uni 480 p (XU.1, 0)).1 k) Y) k XD).2))) (C := RX3) (T := TX3) (N := 18) hx hb hts (by decide +kernel) hown hK.1 hW hR.1 rfl 7 (by decide) (hts (.fieldLink RX3 108 "CharRowsModel" "drafted" "I") (by decide +kernel)) (fun _ h9 => h9) rfl dX3_point_63 ?_
          refine lv_aload_n hx hb dX3_point_66 rfl (lv_at hl 0 rfl) ?_
          refine wd_get (ci := 3) (v := .ref (A 7)) (C := RX3) (T := TX3) (N := 18) hx hb hts (by decide +kernel) hown hK.1 hW hR.1 rfl 12 (by decide) (hts (.fieldLink RX3 35 "CharRowsModel" "units" "[I") (by decide +kernel)) (fun _ h9 => h9) rfl dX3_point_67 ?_
          refine lv_iload_n hx hb dX3_point_70 rfl (lv_at hl 2 rfl) ?_
          refine wd_iald hx hb hK.1 hW 0 hR.2.2.2.2.2.2.2.2.1 rfl (vp_in_nI (by omega) (by omega)) dX3_point_71 ?_
          refine wd_topE (y := (r_uni 480 p (XU.1, 0)).1 k) (by rw [nI_clamp (by omega)]) ?_
          refine wd_iast hx hb hK.1 hW hS 0 hR.2.2.2.2.2.2.1 rfl (vp_in_nI (by omega) (by omega)) dX3_point_72 (fun H locs hW hS => ?_)
          rw [nI_clamp (by omega)] at hW
          obtain ⟨w_v5, hW, hR⟩ : ∃ w', wd_P D vwCl (wd_A w sg.heap.size) w' H ∧ rW cI m A (fun t => oI (tx t)) (kI kp) (fun r => (rs r).1) (fun r => nI (rs r).2.length) fI kp.length cd pl ((upd ((itN (fun k Y => r_add 60 ((r_uni 480 p (XU.1, 0)).1 k) Y) k XD).1) ((itN (fun k Y => r_add 60 ((r_uni 480 p (XU.1, 0)).1 k) Y) k XD).2) ((r_uni 480 p (XU.1, 0)).1 k)), (itN (fun k Y => r_add 60 ((r_uni 480 p (XU.1, 0)).1 k) Y) k XD).2) XP (r_uni 480 p (XU.1, 0)) XO XB w' := ⟨_, hW, hR.aXD (upd ((itN (fun k Y => r_add 60 ((r_uni 480 p (XU.1, 0)).1 k) Y) k XD).1) ((itN (fun k Y => r_add 60 ((r_uni 480 p (XU.1, 0)).1 k) Y) k XD).2) ((r_uni 480 p (XU.1, 0)).1 k))⟩
          refine lv_aload_n hx hb dX3_point_73 rfl (lv_at hl 0 rfl) ?_
          refine lv_dup hx hb dX3_point_74 rfl ?_
          refine wd_get (ci := 3) (v := .int (nI ((itN (fun k Y => r_add 60 ((r_uni 480 p (XU.1, 0)).1 k) Y) k XD).2))) (C := RX3) (T := TX3) (N := 18) hx hb hts (by decide +kernel) hown hK.1 hW hR.1 rfl 7 (by decide) (hts (.fieldLink RX3 108 "CharRowsModel" "drafted" "I") (by decide +kernel)) (fun _ h9 => h9) rfl dX3_point_75 ?_
          refine lv_iconst (v := 1) hx hb dX3_point_78 (by decide) ?_
          refine lv_iadd hx hb dX3_point_79 ?_
          refine wd_topE (y := nI ((itN (fun k Y => r_add 60 ((r_uni 480 p (XU.1, 0)).1 k) Y) k XD).2 + 1)) (nI_1 _) ?_
          refine wd_put (ci := 3) (v := .int (nI ((itN (fun k Y => r_add 60 ((r_uni 480 p (XU.1, 0)).1 k) Y) k XD).2 + 1))) (ty := .int) (C := RX3) (T := TX3) (N := 18) hx hb hts (by decide +kernel) tyX3 tyX3_ok nmX3 hown hK.1 hW hS hR.1 rfl 7 (by decide) (hts (.fieldLink RX3 108 "CharRowsModel" "drafted" "I") (by decide +kernel)) (fun _ h9 => h9) rfl (by decide +kernel) rfl rfl (Nat.le_of_ble_eq_true rfl) dX3_point_80 (fun H locs hW hS => ?_)
          obtain ⟨w_v6, hW, hR⟩ : ∃ w', wd_P D vwCl (wd_A w sg.heap.size) w' H ∧ rW cI m A (fun t => oI (tx t)) (kI kp) (fun r => (rs r).1) (fun r => nI (rs r).2.length) fI kp.length cd pl ((upd ((itN (fun k Y => r_add 60 ((r_uni 480 p (XU.1, 0)).1 k) Y) k XD).1) ((itN (fun k Y => r_add 60 ((r_uni 480 p (XU.1, 0)).1 k) Y) k XD).2) ((r_uni 480 p (XU.1, 0)).1 k)), (itN (fun k Y => r_add 60 ((r_uni 480 p (XU.1, 0)).1 k) Y) k XD).2 + 1) XP (r_uni 480 p (XU.1, 0)) XO XB w' := ⟨_, hW, hR.cXD ((itN (fun k Y => r_add 60 ((r_uni 480 p (XU.1, 0)).1 k) Y) k XD).2 + 1)⟩
          refine lv_iinc (v := nI (k + 1)) (lv' := [(2, .int (nI (k + 1))), (0, .ref m), (1, .int p)]) hx hb dX3_point_83 hl (k := 2) rfl (nI_add k 1) (by decide) rfl (fun ls hl => ?_)
          refine lv_goto (tgt := 50) hx hb dX3_point_86 (by decide) ?_
          exact ih_50 (k + 1) H locs ls ⟨(by omega), ⟨_, hW, (by rw [show itN (fun k Y => r_add 60 ((r_uni 480 p (XU.1, 0)).1 k) Y) (k + 1) XD = _ from by (show r_add 60 _ _ = _; rw [r_add, if_pos (by omega)])]; exact hR)⟩, hS, (lv_sub hl [1, 2, 0] rfl)⟩ (by omega)
      ·
        have c_28 : ¬ (XD.2 + 1 ≤ 60) := fun q9 => absurd ((nI_leI (by omega) (by omega)).mpr q9) (show ¬ (nI (XD.2 + 1) ≤ nI 60) from c_28)
        refine lv_aload_n hx hb dX3_point_31 rfl (lv_at hl 0 rfl) ?_
        refine lv_bipush (v := 6) hx hb dX3_point_32 (by decide) ?_
        refine wd_callVi (As := [.int 6]) (rest := []) (c2 := 0) (s2 := 0) ⟨hx, hb, hml, hown, hts⟩ (k_X3_no l D cI cT w H.size m A (fun t => oI (tx t)) (kI kp) (fun r => (rs r).1) (fun r => nI (rs r).2.length) fI kp.length cd pl XD XP XU XO XB 6 hR) (cwV 1 hts gX3_point_X3_no rfl rfl rfl (by decide +kernel) ⟨Nat.le_of_ble_eq_true rfl, Nat.le_of_ble_eq_true rfl⟩) gK_ok hK hW (wd_recv (ci := 3) hK.1 hW rfl hR.1) hS hA rfl hl.1 rfl (Nat.le_of_ble_eq_true rfl) dX3_point_34 ⟨Nat.le_of_ble_eq_true rfl, Nat.le_of_ble_eq_true rfl⟩ rfl rfl (fun r_34 w_34 H locs hp_34 hW hz hS => ?_)
        obtain ⟨q_r, hR⟩ := hp_34
        subst r_34
        refine wd_iret hx hb hr hlocks hW hS dX3_point_37 ?_
        have e9 : s_point (cd, pl, df, tx, kp, rs) p = (0, 6, pl, df, tx, kp, rs) := by simp only [s_point, if_neg c_4, s_no, if_pos (show 60 < df.length + (u_units p).length by omega)]
        show _ = (s_point (cd, pl, df, tx, kp, rs) p).1 ∧ InvR cI m (s_point (cd, pl, df, tx, kp, rs) p).2 _
        rw [e9]
        exact ⟨rfl, A, fI, XD, XP, XU, XO, XB, hR, hdf, hit⟩
  ·
    have c_4 := w_no (show (¬ j_noPoint p) ↔ ¬ j_noPoint p from Iff.rfl) (j_b0 c_4)
    refine lv_ldc (v := (-2000000001)) hx hb hown (hts (.constant RX3 107 (-2000000001)) (by decide +kernel)) dX3_point_7 ?_
    refine wd_iret hx hb hr hlocks hW hS dX3_point_9 ?_
    have e9 : s_point (cd, pl, df, tx, kp, rs) p = ((-2000000001), cd, pl, df, tx, kp, rs) := by simp only [s_point, if_pos c_4, s_no]
    show _ = (s_point (cd, pl, df, tx, kp, rs) p).1 ∧ InvR cI m (s_point (cd, pl, df, tx, kp, rs) p).2 _
    rw [e9]
    exact ⟨rfl, A, fI, XD, XP, XU, XO, XB, hR, hdf, hit⟩
set_option maxHeartbeats 4000000 in
set_option maxRecDepth 100000 in
theorem k_X3_same (l : Launch) (D : va_G) (cI cT : ClassId) (w : Wd) (sz : Nat) (m : Nat) (cd : Int32) (pl : Int32) (df : List Int32) (tx : Nat → Option Nat) (kp : List Nat) (rs : Rws) (a : Int32) (b : Int32) (hwf : WF (cd, pl, df, tx, kp, rs)) (hI : InvR cI m (cd, pl, df, tx, kp, rs) w) : wd_Mi l D vwCl (gK D cI cT) yX3_same wsX3_same (wd_rm 2 0 0) [.ref m, .int a, .int b] w sz (fun r w' => r = (s_same (cd, pl, df, tx, kp, rs) a b).1 ∧ InvR cI m (s_same (cd, pl, df, tx, kp, rs) a b).2 w') := by
  refine wd_met (cc := cX3_same) (maxL := 3) (ret := (some .int)) (by decide) rfl (Nat.le_of_ble_eq_true rfl) ?_
  intro pg ev sg mi bl mt cde ls C0 hsz hK hW hl
  obtain ⟨hx, hb, hr, hml, hown, hts, hlocks, hnm⟩ := C0
  subst hsz
  have hown : sg.vm.findClass RX3 = some mi.cls := hown
  have hS : va_S (wd_A w sg.heap.size) sg.heap sg.heap [] := va_S.rf
  have hA : ∀ q, sg.heap.size ≤ q → wd_A w sg.heap.size q := fun q h => Or.inr h
  have hl : lv_has ls 3 [(0, .ref m), (1, .int a), (2, .int b)] := hl
  obtain ⟨A, fI, XD, XP, XU, XO, XB, hR, hdf, hit⟩ := hI
  dsimp only at hR hdf hit
  have h10 : ∀ t, 10 ≤ t → tx t = none := hwf.2.1
  have hkp : kp.length ≤ 12 := hwf.2.2.1
  have hlv : ∀ t r, tx t = some r → r < 24 := fun t r h => (hwf.2.2.2.1 r (Or.inl ⟨t, h⟩)).1
  have hok : ∀ t r, tx t = some r → rOK (rs r) := fun t r h => (hwf.2.2.2.1 r (Or.inl ⟨t, h⟩)).2
  have hk24 : ∀ r ∈ kp, r < 24 := fun r h => (hwf.2.2.2.1 r (Or.inr h)).1
  have hdl : df.length = XD.2 := by rw [← hdf, rl_len]
  have hd60 : df.length ≤ 60 := hwf.1.1
  refine lv_iload_n hx hb dX3_same_0 rfl (lv_at hl 1 rfl) ?_
  refine wd_callSi (As := [.int a]) (rest := []) (c2 := 0) (s2 := 0) ⟨hx, hb, hml, hown, hts⟩ (k_X3_isText l D cI cT w sg.heap.size a ) (va_cwS 1 hts gX3_same_X3_isText rfl rfl rfl (by decide +kernel) ⟨Nat.le_of_ble_eq_true rfl, Nat.le_of_ble_eq_true rfl⟩) gK_ok hK hW hS hA rfl hl.1 rfl (Nat.le_of_ble_eq_true rfl) dX3_same_1 ⟨Nat.le_of_ble_eq_true rfl, Nat.le_of_ble_eq_true rfl⟩ rfl rfl (fun r_1 w_1 H locs hp_1 hW hz hS => ?_)
  obtain ⟨q_r, q_w⟩ := hp_1
  subst r_1
  subst w_1
  refine lv_if_eq (tgt := 14) hx hb dX3_same_4 (by decide) (fun c_4 => ?_) (fun c_4 => ?_)
  ·
    have c_4 := nt_of (j_b0 c_4)
    refine lv_ldc (v := (-2000000001)) hx hb hown (hts (.constant RX3 107 (-2000000001)) (by decide +kernel)) dX3_same_14 ?_
    refine lv_goto (tgt := 39) hx hb dX3_same_16 (by decide) ?_
    refine wd_iret hx hb hr hlocks hW hS dX3_same_39 ?_
    have e9 : s_same (cd, pl, df, tx, kp, rs) a b = ((-2000000001), cd, pl, df, tx, kp, rs) := by simp only [s_same, if_pos (Or.inl c_4)]
    show _ = (s_same (cd, pl, df, tx, kp, rs) a b).1 ∧ InvR cI m (s_same (cd, pl, df, tx, kp, rs) a b).2 _
    rw [e9]
    exact ⟨rfl, A, fI, XD, XP, XU, XO, XB, hR, hdf, hit⟩
  ·
    have c_4 := j_bn c_4
    obtain ⟨aN, haN, haE⟩ := nt_spec c_4
    subst haE
    have hcl_a : (nI aN).toNatClampNeg = aN := nI_clamp (by omega)
    refine lv_iload_n hx hb dX3_same_7 rfl (lv_at hl 2 rfl) ?_
    refine wd_callSi (As := [.int b]) (rest := []) (c2 := 0) (s2 := 0) ⟨hx, hb, hml, hown, hts⟩ (k_X3_isText l D cI cT w H.size b ) (va_cwS 1 hts gX3_same_X3_isText rfl rfl rfl (by decide +kernel) ⟨Nat.le_of_ble_eq_true rfl, Nat.le_of_ble_eq_true rfl⟩) gK_ok hK hW hS hA rfl hl.1 rfl (Nat.le_of_ble_eq_true rfl) dX3_same_8 ⟨Nat.le_of_ble_eq_true rfl, Nat.le_of_ble_eq_true rfl⟩ rfl rfl (fun r_8 w_8 H locs hp_8 hW hz hS => ?_)
    obtain ⟨q_r, q_w⟩ := hp_8
    subst r_8
    subst w_8
    refine lv_if_ne (tgt := 19) hx hb dX3_same_11 (by decide) (fun c_11 => ?_) (fun c_11 => ?_)
    ·
      have c_11 := j_bn c_11
      obtain ⟨bN, hbN, hbE⟩ := nt_spec c_11
      subst hbE
      have hcl_b : (nI bN).toNatClampNeg = bN := nI_clamp (by omega)
      refine lv_aload_n hx hb dX3_same_19 rfl (lv_at hl 0 rfl) ?_
      refine wd_get (ci := 3) (v := .ref (A 0)) (C := RX3) (T := TX3) (N := 18) hx hb hts (by decide +kernel) hown hK.1 hW hR.1 rfl 0 (by decide) (hts (.fieldLink RX3 7 "CharRowsModel" "textRow" "[I") (by decide +kernel)) (fun _ h9 => h9) rfl dX3_same_20 ?_
      refine lv_iload_n hx hb dX3_same_23 rfl (lv_at hl 1 rfl) ?_
      refine wd_iald hx hb hK.1 hW 0 hR.2.1 rfl (vp_in_nI (by omega) (by omega)) dX3_same_24 ?_
      refine wd_topE (y := oI (tx aN)) (by rw [nI_clamp (by omega)]) ?_
      refine lv_aload_n hx hb dX3_same_25 rfl (lv_at hl 0 rfl) ?_
      refine wd_get (ci := 3) (v := .ref (A 0)) (C := RX3) (T := TX3) (N := 18) hx hb hts (by decide +kernel) hown hK.1 hW hR.1 rfl 0 (by decide) (hts (.fieldLink RX3 7 "CharRowsModel" "textRow" "[I") (by decide +kernel)) (fun _ h9 => h9) rfl dX3_same_26 ?_
      refine lv_iload_n hx hb dX3_same_29 rfl (lv_at hl 2 rfl) ?_
      refine wd_iald hx hb hK.1 hW 0 hR.2.1 rfl (vp_in_nI (by omega) (by omega)) dX3_same_30 ?_
      refine wd_topE (y := oI (tx bN)) (by rw [nI_clamp (by omega)]) ?_
      refine lv_icmp_ne (tgt := 38) hx hb dX3_same_31 (by decide) (fun c_31 => ?_) (fun c_31 => ?_)
      ·
        refine lv_iconst (v := 0) hx hb dX3_same_38 (by decide) ?_
        refine wd_iret hx hb hr hlocks hW hS dX3_same_39 ?_
        have e9 : s_same (cd, pl, df, tx, kp, rs) (nI aN) (nI bN) = (0, cd, pl, df, tx, kp, rs) := by simp only [s_same, if_neg (not_or.mpr ⟨c_4, c_11⟩), if_neg (show ¬ (tx aN = tx bN) from fun q => c_31 (congrArg oI q)), hcl_a, hcl_b]
        show _ = (s_same (cd, pl, df, tx, kp, rs) (nI aN) (nI bN)).1 ∧ InvR cI m (s_same (cd, pl, df, tx, kp, rs) (nI aN) (nI bN)).2 _
        rw [e9]
        exact ⟨rfl, A, fI, XD, XP, XU, XO, XB, hR, hdf, hit⟩
      ·
        refine lv_iconst (v := 1) hx hb dX3_same_34 (by decide) ?_
        refine lv_goto (tgt := 39) hx hb dX3_same_35 (by decide) ?_
        refine wd_iret hx hb hr hlocks hW hS dX3_same_39 ?_
        have e9 : s_same (cd, pl, df, tx, kp, rs) (nI aN) (nI bN) = (1, cd, pl, df, tx, kp, rs) := by simp only [s_same, if_neg (not_or.mpr ⟨c_4, c_11⟩), if_pos (show tx aN = tx bN from (oI_inj (hlv aN) (hlv bN)).mp c_31), hcl_a, hcl_b]
        show _ = (s_same (cd, pl, df, tx, kp, rs) (nI aN) (nI bN)).1 ∧ InvR cI m (s_same (cd, pl, df, tx, kp, rs) (nI aN) (nI bN)).2 _
        rw [e9]
        exact ⟨rfl, A, fI, XD, XP, XU, XO, XB, hR, hdf, hit⟩
    ·
      have c_11 := nt_of (j_b0 c_11)
      refine lv_ldc (v := (-2000000001)) hx hb hown (hts (.constant RX3 107 (-2000000001)) (by decide +kernel)) dX3_same_14 ?_
      refine lv_goto (tgt := 39) hx hb dX3_same_16 (by decide) ?_
      refine wd_iret hx hb hr hlocks hW hS dX3_same_39 ?_
      have e9 : s_same (cd, pl, df, tx, kp, rs) (nI aN) b = ((-2000000001), cd, pl, df, tx, kp, rs) := by simp only [s_same, if_pos (Or.inr c_11), hcl_a]
      show _ = (s_same (cd, pl, df, tx, kp, rs) (nI aN) b).1 ∧ InvR cI m (s_same (cd, pl, df, tx, kp, rs) (nI aN) b).2 _
      rw [e9]
      exact ⟨rfl, A, fI, XD, XP, XU, XO, XB, hR, hdf, hit⟩
set_option maxHeartbeats 4000000 in
set_option maxRecDepth 100000 in
theorem k_X3_nothing (l : Launch) (D : va_G) (cI cT : ClassId) (w : Wd) (sz : Nat) (m : Nat) (cd : Int32) (pl : Int32) (df : List Int32) (tx : Nat → Option Nat) (kp : List Nat) (rs : Rws) (t : Int32) (hwf : WF (cd, pl, df, tx, kp, rs)) (hI : InvR cI m (cd, pl, df, tx, kp, rs) w) : wd_Mi l D vwCl (gK D cI cT) yX3_nothing wsX3_nothing (wd_rm 2 0 0) [.ref m, .int t] w sz (fun r w' => r = (s_nothing (cd, pl, df, tx, kp, rs) t).1 ∧ InvR cI m (s_nothing (cd, pl, df, tx, kp, rs) t).2 w') := by
  refine wd_met (cc := cX3_nothing) (maxL := 3) (ret := (some .int)) (by decide) rfl (Nat.le_of_ble_eq_true rfl) ?_
  intro pg ev sg mi bl mt cde ls C0 hsz hK hW hl
  obtain ⟨hx, hb, hr, hml, hown, hts, hlocks, hnm⟩ := C0
  subst hsz
  have hown : sg.vm.findClass RX3 = some mi.cls := hown
  have hS : va_S (wd_A w sg.heap.size) sg.heap sg.heap [] := va_S.rf
  have hA : ∀ q, sg.heap.size ≤ q → wd_A w sg.heap.size q := fun q h => Or.inr h
  have hl : lv_has ls 3 [(0, .ref m), (1, .int t)] := hl
  obtain ⟨A, fI, XD, XP, XU, XO, XB, hR, hdf, hit⟩ := hI
  dsimp only at hR hdf hit
  have h10 : ∀ t, 10 ≤ t → tx t = none := hwf.2.1
  have hkp : kp.length ≤ 12 := hwf.2.2.1
  have hlv : ∀ t r, tx t = some r → r < 24 := fun t r h => (hwf.2.2.2.1 r (Or.inl ⟨t, h⟩)).1
  have hok : ∀ t r, tx t = some r → rOK (rs r) := fun t r h => (hwf.2.2.2.1 r (Or.inl ⟨t, h⟩)).2
  have hk24 : ∀ r ∈ kp, r < 24 := fun r h => (hwf.2.2.2.1 r (Or.inr h)).1
  have hdl : df.length = XD.2 := by rw [← hdf, rl_len]
  have hd60 : df.length ≤ 60 := hwf.1.1
  refine lv_iload_n hx hb dX3_nothing_0 rfl (lv_at hl 1 rfl) ?_
  refine wd_callSi (As := [.int t]) (rest := []) (c2 := 0) (s2 := 0) ⟨hx, hb, hml, hown, hts⟩ (k_X3_isText l D cI cT w sg.heap.size t ) (va_cwS 1 hts gX3_nothing_X3_isText rfl rfl rfl (by decide +kernel) ⟨Nat.le_of_ble_eq_true rfl, Nat.le_of_ble_eq_true rfl⟩) gK_ok hK hW hS hA rfl hl.1 rfl (Nat.le_of_ble_eq_true rfl) dX3_nothing_1 ⟨Nat.le_of_ble_eq_true rfl, Nat.le_of_ble_eq_true rfl⟩ rfl rfl (fun r_1 w_1 H locs hp_1 hW hz hS => ?_)
  obtain ⟨q_r, q_w⟩ := hp_1
  subst r_1
  subst w_1
  refine lv_if_ne (tgt := 10) hx hb dX3_nothing_4 (by decide) (fun c_4 => ?_) (fun c_4 => ?_)
  ·
    have c_4 := j_bn c_4
    obtain ⟨tN, htN, htE⟩ := nt_spec c_4
    subst htE
    have hcl_t : (nI tN).toNatClampNeg = tN := nI_clamp (by omega)
    refine lv_aload_n hx hb dX3_nothing_10 rfl (lv_at hl 0 rfl) ?_
    refine lv_iload_n hx hb dX3_nothing_11 rfl (lv_at hl 1 rfl) ?_
    refine wd_callVi (As := [.int (nI tN)]) (rest := []) (c2 := 0) (s2 := 0) ⟨hx, hb, hml, hown, hts⟩ (k_X3_sortOf l D cI cT w H.size m A (kI kp) (fun r => nI (rs r).2.length) fI kp.length cd pl XD XP XU XO XB tx rs tN hR (by omega) hlv) (cwV 1 hts gX3_nothing_X3_sortOf rfl rfl rfl (by decide +kernel) ⟨Nat.le_of_ble_eq_true rfl, Nat.le_of_ble_eq_true rfl⟩) gK_ok hK hW (wd_recv (ci := 3) hK.1 hW rfl hR.1) hS hA rfl hl.1 rfl (Nat.le_of_ble_eq_true rfl) dX3_nothing_12 ⟨Nat.le_of_ble_eq_true rfl, Nat.le_of_ble_eq_true rfl⟩ rfl rfl (fun r_12 w_12 H locs hp_12 hW hz hS => ?_)
    obtain ⟨q_r, q_w⟩ := hp_12
    subst r_12
    subst w_12
    cases htx_12 : tx tN with
    | none =>
      refine wd_topE (y := -1) rfl ?_
      refine lv_istore_n (lv' := [(2, .int (-1)), (0, .ref m), (1, .int (nI tN))]) hx hb dX3_nothing_15 rfl hl (by decide) rfl (fun ls hl => ?_)
      refine lv_aload_n hx hb dX3_nothing_16 rfl (lv_at hl 1 rfl) ?_
      refine wd_get (ci := 3) (v := .ref (A 0)) (C := RX3) (T := TX3) (N := 18) hx hb hts (by decide +kernel) hown hK.1 hW hR.1 rfl 0 (by decide) (hts (.fieldLink RX3 7 "CharRowsModel" "textRow" "[I") (by decide +kernel)) (fun _ h9 => h9) rfl dX3_nothing_17 ?_
      refine lv_iload_n hx hb dX3_nothing_20 rfl (lv_at hl 2 rfl) ?_
      refine lv_iconst (v := (-1)) hx hb dX3_nothing_21 (by decide) ?_
      refine wd_iast hx hb hK.1 hW hS 0 hR.2.1 rfl (vp_in_nI (by omega) (by omega)) dX3_nothing_22 (fun H locs hW hS => ?_)
      rw [nI_clamp (by omega)] at hW
      obtain ⟨w_v1, hW, hR⟩ : ∃ w', wd_P D vwCl (wd_A w sg.heap.size) w' H ∧ rW cI m A (upd (fun t => oI (tx t)) tN (-1)) (kI kp) (fun r => (rs r).1) (fun r => nI (rs r).2.length) fI kp.length cd pl XD XP XU XO XB w' := ⟨_, hW, hR.afT (upd (fun t => oI (tx t)) tN (-1))⟩
      rw [upTN] at hR
      refine lv_iload_n hx hb dX3_nothing_23 rfl (lv_at hl 0 rfl) ?_
      refine wd_iret hx hb hr hlocks hW hS dX3_nothing_24 ?_
      have e9 : s_nothing (cd, pl, df, tx, kp, rs) (nI tN) = ((-1), cd, pl, df, (va_up tx tN none), kp, rs) := by simp only [s_nothing, if_neg c_4, u_srt, s_tx, hcl_t, htx_12]
      show _ = (s_nothing (cd, pl, df, tx, kp, rs) (nI tN)).1 ∧ InvR cI m (s_nothing (cd, pl, df, tx, kp, rs) (nI tN)).2 _
      rw [e9]
      exact ⟨rfl, A, fI, XD, XP, XU, XO, XB, hR, hdf, hit⟩
    | some r_12 =>
      refine wd_topE (y := (rs r_12).1) rfl ?_
      have hr24_12 := hlv _ _ htx_12
      refine lv_istore_n (lv' := [(2, .int ((rs r_12).1)), (0, .ref m), (1, .int (nI tN))]) hx hb dX3_nothing_15 rfl hl (by decide) rfl (fun ls hl => ?_)
      refine lv_aload_n hx hb dX3_nothing_16 rfl (lv_at hl 1 rfl) ?_
      refine wd_get (ci := 3) (v := .ref (A 0)) (C := RX3) (T := TX3) (N := 18) hx hb hts (by decide +kernel) hown hK.1 hW hR.1 rfl 0 (by decide) (hts (.fieldLink RX3 7 "CharRowsModel" "textRow" "[I") (by decide +kernel)) (fun _ h9 => h9) rfl dX3_nothing_17 ?_
      refine lv_iload_n hx hb dX3_nothing_20 rfl (lv_at hl 2 rfl) ?_
      refine lv_iconst (v := (-1)) hx hb dX3_nothing_21 (by decide) ?_
      refine wd_iast hx hb hK.1 hW hS 0 hR.2.1 rfl (vp_in_nI (by omega) (by omega)) dX3_nothing_22 (fun H locs hW hS => ?_)
      rw [nI_clamp (by omega)] at hW
      obtain ⟨w_v2, hW, hR⟩ : ∃ w', wd_P D vwCl (wd_A w sg.heap.size) w' H ∧ rW cI m A (upd (fun t => oI (tx t)) tN (-1)) (kI kp) (fun r => (rs r).1) (fun r => nI (rs r).2.length) fI kp.length cd pl XD XP XU XO XB w' := ⟨_, hW, hR.afT (upd (fun t => oI (tx t)) tN (-1))⟩
      rw [upTN] at hR
      refine lv_iload_n hx hb dX3_nothing_23 rfl (lv_at hl 0 rfl) ?_
      refine wd_iret hx hb hr hlocks hW hS dX3_nothing_24 ?_
      have e9 : s_nothing (cd, pl, df, tx, kp, rs) (nI tN) = ((rs r_12).1, cd, pl, df, (va_up tx tN none), kp, rs) := by simp only [s_nothing, if_neg c_4, u_srt, s_tx, hcl_t, htx_12]
      show _ = (s_nothing (cd, pl, df, tx, kp, rs) (nI tN)).1 ∧ InvR cI m (s_nothing (cd, pl, df, tx, kp, rs) (nI tN)).2 _
      rw [e9]
      exact ⟨rfl, A, fI, XD, XP, XU, XO, XB, hR, hdf, hit⟩
  ·
    have c_4 := nt_of (j_b0 c_4)
    refine lv_ldc (v := (-2000000001)) hx hb hown (hts (.constant RX3 107 (-2000000001)) (by decide +kernel)) dX3_nothing_7 ?_
    refine wd_iret hx hb hr hlocks hW hS dX3_nothing_9 ?_
    have e9 : s_nothing (cd, pl, df, tx, kp, rs) t = ((-2000000001), cd, pl, df, tx, kp, rs) := by simp only [s_nothing, if_pos c_4, u_srt, s_tx]
    show _ = (s_nothing (cd, pl, df, tx, kp, rs) t).1 ∧ InvR cI m (s_nothing (cd, pl, df, tx, kp, rs) t).2 _
    rw [e9]
    exact ⟨rfl, A, fI, XD, XP, XU, XO, XB, hR, hdf, hit⟩
set_option maxHeartbeats 4000000 in
set_option maxRecDepth 100000 in
theorem k_X3_share (l : Launch) (D : va_G) (cI cT : ClassId) (w : Wd) (sz : Nat) (m : Nat) (cd : Int32) (pl : Int32) (df : List Int32) (tx : Nat → Option Nat) (kp : List Nat) (rs : Rws) (t : Int32) (u : Int32) (hwf : WF (cd, pl, df, tx, kp, rs)) (hI : InvR cI m (cd, pl, df, tx, kp, rs) w) : wd_Mi l D vwCl (gK D cI cT) yX3_share wsX3_share (wd_rm 2 0 0) [.ref m, .int t, .int u] w sz (fun r w' => r = (s_share (cd, pl, df, tx, kp, rs) t u).1 ∧ InvR cI m (s_share (cd, pl, df, tx, kp, rs) t u).2 w') := by
  refine wd_met (cc := cX3_share) (maxL := 3) (ret := (some .int)) (by decide) rfl (Nat.le_of_ble_eq_true rfl) ?_
  intro pg ev sg mi bl mt cde ls C0 hsz hK hW hl
  obtain ⟨hx, hb, hr, hml, hown, hts, hlocks, hnm⟩ := C0
  subst hsz
  have hown : sg.vm.findClass RX3 = some mi.cls := hown
  have hS : va_S (wd_A w sg.heap.size) sg.heap sg.heap [] := va_S.rf
  have hA : ∀ q, sg.heap.size ≤ q → wd_A w sg.heap.size q := fun q h => Or.inr h
  have hl : lv_has ls 3 [(0, .ref m), (1, .int t), (2, .int u)] := hl
  obtain ⟨A, fI, XD, XP, XU, XO, XB, hR, hdf, hit⟩ := hI
  dsimp only at hR hdf hit
  have h10 : ∀ t, 10 ≤ t → tx t = none := hwf.2.1
  have hkp : kp.length ≤ 12 := hwf.2.2.1
  have hlv : ∀ t r, tx t = some r → r < 24 := fun t r h => (hwf.2.2.2.1 r (Or.inl ⟨t, h⟩)).1
  have hok : ∀ t r, tx t = some r → rOK (rs r) := fun t r h => (hwf.2.2.2.1 r (Or.inl ⟨t, h⟩)).2
  have hk24 : ∀ r ∈ kp, r < 24 := fun r h => (hwf.2.2.2.1 r (Or.inr h)).1
  have hdl : df.length = XD.2 := by rw [← hdf, rl_len]
  have hd60 : df.length ≤ 60 := hwf.1.1
  refine lv_iload_n hx hb dX3_share_0 rfl (lv_at hl 1 rfl) ?_
  refine wd_callSi (As := [.int t]) (rest := []) (c2 := 0) (s2 := 0) ⟨hx, hb, hml, hown, hts⟩ (k_X3_isText l D cI cT w sg.heap.size t ) (va_cwS 1 hts gX3_share_X3_isText rfl rfl rfl (by decide +kernel) ⟨Nat.le_of_ble_eq_true rfl, Nat.le_of_ble_eq_true rfl⟩) gK_ok hK hW hS hA rfl hl.1 rfl (Nat.le_of_ble_eq_true rfl) dX3_share_1 ⟨Nat.le_of_ble_eq_true rfl, Nat.le_of_ble_eq_true rfl⟩ rfl rfl (fun r_1 w_1 H locs hp_1 hW hz hS => ?_)
  obtain ⟨q_r, q_w⟩ := hp_1
  subst r_1
  subst w_1
  refine lv_if_eq (tgt := 14) hx hb dX3_share_4 (by decide) (fun c_4 => ?_) (fun c_4 => ?_)
  ·
    have c_4 := nt_of (j_b0 c_4)
    refine lv_ldc (v := (-2000000001)) hx hb hown (hts (.constant RX3 107 (-2000000001)) (by decide +kernel)) dX3_share_14 ?_
    refine wd_iret hx hb hr hlocks hW hS dX3_share_16 ?_
    have e9 : s_share (cd, pl, df, tx, kp, rs) t u = ((-2000000001), cd, pl, df, tx, kp, rs) := by simp only [s_share, if_pos (Or.inl c_4), s_tx]
    show _ = (s_share (cd, pl, df, tx, kp, rs) t u).1 ∧ InvR cI m (s_share (cd, pl, df, tx, kp, rs) t u).2 _
    rw [e9]
    exact ⟨rfl, A, fI, XD, XP, XU, XO, XB, hR, hdf, hit⟩
  ·
    have c_4 := j_bn c_4
    obtain ⟨tN, htN, htE⟩ := nt_spec c_4
    subst htE
    have hcl_t : (nI tN).toNatClampNeg = tN := nI_clamp (by omega)
    refine lv_iload_n hx hb dX3_share_7 rfl (lv_at hl 2 rfl) ?_
    refine wd_callSi (As := [.int u]) (rest := []) (c2 := 0) (s2 := 0) ⟨hx, hb, hml, hown, hts⟩ (k_X3_isText l D cI cT w H.size u ) (va_cwS 1 hts gX3_share_X3_isText rfl rfl rfl (by decide +kernel) ⟨Nat.le_of_ble_eq_true rfl, Nat.le_of_ble_eq_true rfl⟩) gK_ok hK hW hS hA rfl hl.1 rfl (Nat.le_of_ble_eq_true rfl) dX3_share_8 ⟨Nat.le_of_ble_eq_true rfl, Nat.le_of_ble_eq_true rfl⟩ rfl rfl (fun r_8 w_8 H locs hp_8 hW hz hS => ?_)
    obtain ⟨q_r, q_w⟩ := hp_8
    subst r_8
    subst w_8
    refine lv_if_ne (tgt := 17) hx hb dX3_share_11 (by decide) (fun c_11 => ?_) (fun c_11 => ?_)
    ·
      have c_11 := j_bn c_11
      obtain ⟨uN, huN, huE⟩ := nt_spec c_11
      subst huE
      have hcl_u : (nI uN).toNatClampNeg = uN := nI_clamp (by omega)
      refine lv_aload_n hx hb dX3_share_17 rfl (lv_at hl 0 rfl) ?_
      refine wd_get (ci := 3) (v := .ref (A 0)) (C := RX3) (T := TX3) (N := 18) hx hb hts (by decide +kernel) hown hK.1 hW hR.1 rfl 0 (by decide) (hts (.fieldLink RX3 7 "CharRowsModel" "textRow" "[I") (by decide +kernel)) (fun _ h9 => h9) rfl dX3_share_18 ?_
      refine lv_iload_n hx hb dX3_share_21 rfl (lv_at hl 1 rfl) ?_
      refine lv_aload_n hx hb dX3_share_22 rfl (lv_at hl 0 rfl) ?_
      refine wd_get (ci := 3) (v := .ref (A 0)) (C := RX3) (T := TX3) (N := 18) hx hb hts (by decide +kernel) hown hK.1 hW hR.1 rfl 0 (by decide) (hts (.fieldLink RX3 7 "CharRowsModel" "textRow" "[I") (by decide +kernel)) (fun _ h9 => h9) rfl dX3_share_23 ?_
      refine lv_iload_n hx hb dX3_share_26 rfl (lv_at hl 2 rfl) ?_
      refine wd_iald hx hb hK.1 hW 0 hR.2.1 rfl (vp_in_nI (by omega) (by omega)) dX3_share_27 ?_
      refine wd_topE (y := oI (tx uN)) (by rw [nI_clamp (by omega)]) ?_
      refine wd_iast hx hb hK.1 hW hS 0 hR.2.1 rfl (vp_in_nI (by omega) (by omega)) dX3_share_28 (fun H locs hW hS => ?_)
      rw [nI_clamp (by omega)] at hW
      obtain ⟨w_v1, hW, hR⟩ : ∃ w', wd_P D vwCl (wd_A w sg.heap.size) w' H ∧ rW cI m A (upd (fun t => oI (tx t)) tN (oI (tx uN))) (kI kp) (fun r => (rs r).1) (fun r => nI (rs r).2.length) fI kp.length cd pl XD XP XU XO XB w' := ⟨_, hW, hR.afT (upd (fun t => oI (tx t)) tN (oI (tx uN)))⟩
      rw [upTO] at hR
      refine lv_aload_n hx hb dX3_share_29 rfl (lv_at hl 0 rfl) ?_
      refine lv_iload_n hx hb dX3_share_30 rfl (lv_at hl 1 rfl) ?_
      refine wd_callVi (As := [.int (nI tN)]) (rest := []) (c2 := 0) (s2 := 0) ⟨hx, hb, hml, hown, hts⟩ (k_X3_sortOf l D cI cT w_v1 H.size m A (kI kp) (fun r => nI (rs r).2.length) fI kp.length cd pl XD XP XU XO XB (va_up tx tN (tx uN)) rs tN hR (by omega) (fun t r h => by by_cases e : t = tN; subst e; simp [va_up] at h; exact hlv _ _ h; simp [va_up, e] at h; exact hlv _ _ h)) (cwV 1 hts gX3_share_X3_sortOf rfl rfl rfl (by decide +kernel) ⟨Nat.le_of_ble_eq_true rfl, Nat.le_of_ble_eq_true rfl⟩) gK_ok hK hW (wd_recv (ci := 3) hK.1 hW rfl hR.1) hS hA rfl hl.1 rfl (Nat.le_of_ble_eq_true rfl) dX3_share_31 ⟨Nat.le_of_ble_eq_true rfl, Nat.le_of_ble_eq_true rfl⟩ rfl rfl (fun r_31 w_31 H locs hp_31 hW hz hS => ?_)
      obtain ⟨q_r, q_w⟩ := hp_31
      subst r_31
      subst w_31
      refine wd_topE (y := u_srt rs (tx uN)) (by simp [va_up]) ?_
      refine wd_iret hx hb hr hlocks hW hS dX3_share_34 ?_
      have e9 : s_share (cd, pl, df, tx, kp, rs) (nI tN) (nI uN) = (u_srt rs (tx uN), cd, pl, df, (va_up tx tN (tx uN)), kp, rs) := by simp only [s_share, if_neg (not_or.mpr ⟨c_4, c_11⟩), s_tx, hcl_t, hcl_u]
      show _ = (s_share (cd, pl, df, tx, kp, rs) (nI tN) (nI uN)).1 ∧ InvR cI m (s_share (cd, pl, df, tx, kp, rs) (nI tN) (nI uN)).2 _
      rw [e9]
      exact ⟨rfl, A, fI, XD, XP, XU, XO, XB, hR, hdf, hit⟩
    ·
      have c_11 := nt_of (j_b0 c_11)
      refine lv_ldc (v := (-2000000001)) hx hb hown (hts (.constant RX3 107 (-2000000001)) (by decide +kernel)) dX3_share_14 ?_
      refine wd_iret hx hb hr hlocks hW hS dX3_share_16 ?_
      have e9 : s_share (cd, pl, df, tx, kp, rs) (nI tN) u = ((-2000000001), cd, pl, df, tx, kp, rs) := by simp only [s_share, if_pos (Or.inr c_11), s_tx, hcl_t]
      show _ = (s_share (cd, pl, df, tx, kp, rs) (nI tN) u).1 ∧ InvR cI m (s_share (cd, pl, df, tx, kp, rs) (nI tN) u).2 _
      rw [e9]
      exact ⟨rfl, A, fI, XD, XP, XU, XO, XB, hR, hdf, hit⟩
