set_option maxHeartbeats 4000000 in
set_option maxRecDepth 100000 in
theorem k_X3_keep (l : Launch) (D : va_G) (cI cT : ClassId) (w : Wd) (sz : Nat) (m : Nat) (cd : Int32) (pl : Int32) (df : List Int32) (tx : Nat → Option Nat) (kp : List Nat) (rs : Rws) (t : Int32) (hwf : WF (cd, pl, df, tx, kp, rs)) (hI : InvR cI m (cd, pl, df, tx, kp, rs) w) : wd_Mi l D vwCl (gK D cI cT) yX3_keep wsX3_keep (wd_rm 2 0 0) [.ref m, .int t] w sz (fun r w' => r = (s_keep (cd, pl, df, tx, kp, rs) t).1 ∧ InvR cI m (s_keep (cd, pl, df, tx, kp, rs) t).2 w') := by
  refine wd_met (cc := cX3_keep) (maxL := 6) (ret := (some .int)) (by decide) rfl (Nat.le_of_ble_eq_true rfl) ?_
  intro pg ev sg mi bl mt cde ls C0 hsz hK hW hl
  obtain ⟨hx, hb, hr, hml, hown, hts, hlocks, hnm⟩ := C0
  subst hsz
  have hown : sg.vm.findClass RX3 = some mi.cls := hown
  have hS : va_S (wd_A w sg.heap.size) sg.heap sg.heap [] := va_S.rf
  have hA : ∀ q, sg.heap.size ≤ q → wd_A w sg.heap.size q := fun q h => Or.inr h
  have hl : lv_has ls 6 [(0, .ref m), (1, .int t)] := hl
  obtain ⟨A, fI, XD, XP, XU, XO, XB, hR, hdf, hit⟩ := hI
  dsimp only at hR hdf hit
  have h10 : ∀ t, 10 ≤ t → tx t = none := hwf.2.1
  have hkp : kp.length ≤ 12 := hwf.2.2.1
  have hlv : ∀ t r, tx t = some r → r < 24 := fun t r h => (hwf.2.2.2.1 r (Or.inl ⟨t, h⟩)).1
  have hok : ∀ t r, tx t = some r → rOK (rs r) := fun t r h => (hwf.2.2.2.1 r (Or.inl ⟨t, h⟩)).2
  have hk24 : ∀ r ∈ kp, r < 24 := fun r h => (hwf.2.2.2.1 r (Or.inr h)).1
  have hdl : df.length = XD.2 := by rw [← hdf, rl_len]
  have hd60 : df.length ≤ 60 := hwf.1.1
  refine lv_iload_n hx hb dX3_keep_0 rfl (lv_at hl 1 rfl) ?_
  refine wd_callSi (As := [.int t]) (rest := []) (c2 := 0) (s2 := 0) ⟨hx, hb, hml, hown, hts⟩ (k_X3_isText l D cI cT w sg.heap.size t ) (va_cwS 1 hts gX3_keep_X3_isText rfl rfl rfl (by decide +kernel) ⟨Nat.le_of_ble_eq_true rfl, Nat.le_of_ble_eq_true rfl⟩) gK_ok hK hW hS hA rfl hl.1 rfl (Nat.le_of_ble_eq_true rfl) dX3_keep_1 ⟨Nat.le_of_ble_eq_true rfl, Nat.le_of_ble_eq_true rfl⟩ rfl rfl (fun r_1 w_1 H locs hp_1 hW hz hS => ?_)
  obtain ⟨q_r, q_w⟩ := hp_1
  subst r_1
  subst w_1
  refine lv_if_ne (tgt := 10) hx hb dX3_keep_4 (by decide) (fun c_4 => ?_) (fun c_4 => ?_)
  ·
    have c_4 := j_bn c_4
    obtain ⟨tN, htN, htE⟩ := nt_spec c_4
    subst htE
    have hcl_t : (nI tN).toNatClampNeg = tN := nI_clamp (by omega)
    refine lv_aload_n hx hb dX3_keep_10 rfl (lv_at hl 0 rfl) ?_
    refine lv_iload_n hx hb dX3_keep_11 rfl (lv_at hl 1 rfl) ?_
    refine wd_callVi (As := [.int (nI tN)]) (rest := []) (c2 := 0) (s2 := 0) ⟨hx, hb, hml, hown, hts⟩ (k_X3_sortOf l D cI cT w H.size m A (kI kp) (fun r => nI (rs r).2.length) fI kp.length cd pl XD XP XU XO XB tx rs tN hR (by omega) hlv) (cwV 1 hts gX3_keep_X3_sortOf rfl rfl rfl (by decide +kernel) ⟨Nat.le_of_ble_eq_true rfl, Nat.le_of_ble_eq_true rfl⟩) gK_ok hK hW (wd_recv (ci := 3) hK.1 hW rfl hR.1) hS hA rfl hl.1 rfl (Nat.le_of_ble_eq_true rfl) dX3_keep_12 ⟨Nat.le_of_ble_eq_true rfl, Nat.le_of_ble_eq_true rfl⟩ rfl rfl (fun r_12 w_12 H locs hp_12 hW hz hS => ?_)
    obtain ⟨q_r, q_w⟩ := hp_12
    subst r_12
    subst w_12
    cases htx_12 : tx tN with
    | none =>
      refine wd_topE (y := -1) rfl ?_
      refine lv_istore_n (lv' := [(2, .int (-1)), (0, .ref m), (1, .int (nI tN))]) hx hb dX3_keep_15 rfl hl (by decide) rfl (fun ls hl => ?_)
      refine lv_iload_n hx hb dX3_keep_16 rfl (lv_at hl 0 rfl) ?_
      refine lv_if_eq (tgt := 35) hx hb dX3_keep_17 (by decide) (fun c_17 => ?_) (fun c_17 => ?_)
      ·
        exact absurd c_17 (by decide)
      ·
        refine lv_aload_n hx hb dX3_keep_20 rfl (lv_at hl 1 rfl) ?_
        refine lv_iload_n hx hb dX3_keep_21 rfl (lv_at hl 0 rfl) ?_
        refine lv_iconst (v := (-1)) hx hb dX3_keep_22 (by decide) ?_
        refine lv_icmp_ne (tgt := 30) hx hb dX3_keep_23 (by decide) (fun c_23 => ?_) (fun c_23 => ?_)
        ·
          exact absurd rfl c_23
        ·
          refine lv_iconst (v := 1) hx hb dX3_keep_26 (by decide) ?_
          refine lv_goto (tgt := 31) hx hb dX3_keep_27 (by decide) ?_
          refine wd_callVi (As := [.int 1]) (rest := []) (c2 := 0) (s2 := 0) ⟨hx, hb, hml, hown, hts⟩ (k_X3_no l D cI cT w H.size m A (fun t => oI (tx t)) (kI kp) (fun r => (rs r).1) (fun r => nI (rs r).2.length) fI kp.length cd pl XD XP XU XO XB 1 hR) (cwV 1 hts gX3_keep_X3_no rfl rfl rfl (by decide +kernel) ⟨Nat.le_of_ble_eq_true rfl, Nat.le_of_ble_eq_true rfl⟩) gK_ok hK hW (wd_recv (ci := 3) hK.1 hW rfl hR.1) hS hA rfl hl.1 rfl (Nat.le_of_ble_eq_true rfl) dX3_keep_31 ⟨Nat.le_of_ble_eq_true rfl, Nat.le_of_ble_eq_true rfl⟩ rfl rfl (fun r_31 w_31 H locs hp_31 hW hz hS => ?_)
          obtain ⟨q_r, hR⟩ := hp_31
          subst r_31
          refine wd_iret hx hb hr hlocks hW hS dX3_keep_34 ?_
          have e9 : s_keep (cd, pl, df, tx, kp, rs) (nI tN) = (0, 1, pl, df, tx, kp, rs) := by simp only [s_keep, if_neg c_4, s_no, hcl_t, htx_12]
          show _ = (s_keep (cd, pl, df, tx, kp, rs) (nI tN)).1 ∧ InvR cI m (s_keep (cd, pl, df, tx, kp, rs) (nI tN)).2 _
          rw [e9]
          exact ⟨rfl, A, fI, XD, XP, XU, XO, XB, hR, hdf, hit⟩
    | some r_12 =>
      refine wd_topE (y := (rs r_12).1) rfl ?_
      have hr24_12 := hlv _ _ htx_12
      refine lv_istore_n (lv' := [(2, .int ((rs r_12).1)), (0, .ref m), (1, .int (nI tN))]) hx hb dX3_keep_15 rfl hl (by decide) rfl (fun ls hl => ?_)
      refine lv_iload_n hx hb dX3_keep_16 rfl (lv_at hl 0 rfl) ?_
      refine lv_if_eq (tgt := 35) hx hb dX3_keep_17 (by decide) (fun c_17 => ?_) (fun c_17 => ?_)
      ·
        have hlen := (hok _ _ htx_12).len
        refine lv_iconst (v := 0) hx hb dX3_keep_35 (by decide) ?_
        refine lv_istore_n (lv' := [(3, .int 0), (2, .int ((rs r_12).1)), (0, .ref m), (1, .int (nI tN))]) hx hb dX3_keep_36 rfl hl (by decide) rfl (fun ls hl => ?_)
        refine wd_loop1 (fun (k : Nat) (H : Heap) (locs : List Loc) (ls : Array Slot) => (k ≤ kp.length) ∧ (u_kl rs (rs r_12).2 kp 0 = u_kl rs (rs r_12).2 (kp.drop k) k) ∧ (∃ w', wd_P D vwCl (wd_A w sg.heap.size) w' H ∧ rW cI m A (fun t => oI (tx t)) (kI kp) (fun r => (rs r).1) (fun r => nI (rs r).2.length) fI kp.length cd pl XD XP XU XO XB w') ∧ va_S (wd_A w sg.heap.size) sg.heap H locs ∧ lv_has ls 6 [(0, .ref m), (1, .int (nI tN)), (2, .int ((rs r_12).1)), (3, .int (nI k))]) (fun (k : Nat) => kp.length - k) 0 ⟨(by omega), rfl, ⟨_, hW, hR⟩, hS, (lv_sub hl [2, 3, 1, 0] rfl)⟩ (fun k H locs ls hI ih_37 => ?_)
        obtain ⟨hk, hkl, ⟨w_l37, hW, hR⟩, hS, hl⟩ := hI
        refine lv_iload_n hx hb dX3_keep_37 rfl (lv_at hl 3 rfl) ?_
        refine lv_aload_n hx hb dX3_keep_38 rfl (lv_at hl 0 rfl) ?_
        refine wd_get (ci := 3) (v := .int (nI kp.length)) (C := RX3) (T := TX3) (N := 18) hx hb hts (by decide +kernel) hown hK.1 hW hR.1 rfl 2 (by decide) (hts (.fieldLink RX3 60 "CharRowsModel" "kept" "I") (by decide +kernel)) (fun _ h9 => h9) rfl dX3_keep_39 ?_
        refine lv_icmp_ge (tgt := 159) hx hb dX3_keep_42 (by decide) (fun c_42 => ?_) (fun c_42 => ?_)
        ·
          have c_42 : kp.length ≤ k := (nI_leI (by omega) (by omega)).mp (show (nI kp.length ≤ nI k) from c_42)
          refine lv_aload_n hx hb dX3_keep_159 rfl (lv_at hl 0 rfl) ?_
          refine wd_get (ci := 3) (v := .int (nI kp.length)) (C := RX3) (T := TX3) (N := 18) hx hb hts (by decide +kernel) hown hK.1 hW hR.1 rfl 2 (by decide) (hts (.fieldLink RX3 60 "CharRowsModel" "kept" "I") (by decide +kernel)) (fun _ h9 => h9) rfl dX3_keep_160 ?_
          refine lv_bipush (v := 12) hx hb dX3_keep_163 (by decide) ?_
          refine lv_icmp_ne (tgt := 175) hx hb dX3_keep_165 (by decide) (fun c_165 => ?_) (fun c_165 => ?_)
          ·
            have c_165 : ¬ (kp.length = 12) := fun q9 => absurd ((nI_eq (by omega) (by omega)).mpr q9) (show ¬ (nI kp.length = nI 12) from c_165)
            refine lv_aload_n hx hb dX3_keep_175 rfl (lv_at hl 0 rfl) ?_
            refine wd_get (ci := 3) (v := .ref (A 1)) (C := RX3) (T := TX3) (N := 18) hx hb hts (by decide +kernel) hown hK.1 hW hR.1 rfl 1 (by decide) (hts (.fieldLink RX3 13 "CharRowsModel" "keptRow" "[I") (by decide +kernel)) (fun _ h9 => h9) rfl dX3_keep_176 ?_
            refine lv_aload_n hx hb dX3_keep_179 rfl (lv_at hl 0 rfl) ?_
            refine wd_get (ci := 3) (v := .int (nI kp.length)) (C := RX3) (T := TX3) (N := 18) hx hb hts (by decide +kernel) hown hK.1 hW hR.1 rfl 2 (by decide) (hts (.fieldLink RX3 60 "CharRowsModel" "kept" "I") (by decide +kernel)) (fun _ h9 => h9) rfl dX3_keep_180 ?_
            refine lv_aload_n hx hb dX3_keep_183 rfl (lv_at hl 0 rfl) ?_
            refine wd_get (ci := 3) (v := .ref (A 0)) (C := RX3) (T := TX3) (N := 18) hx hb hts (by decide +kernel) hown hK.1 hW hR.1 rfl 0 (by decide) (hts (.fieldLink RX3 7 "CharRowsModel" "textRow" "[I") (by decide +kernel)) (fun _ h9 => h9) rfl dX3_keep_184 ?_
            refine lv_iload_n hx hb dX3_keep_187 rfl (lv_at hl 1 rfl) ?_
            refine wd_iald hx hb hK.1 hW 0 hR.2.1 rfl (vp_in_nI (by omega) (by omega)) dX3_keep_188 ?_
            refine wd_topE (y := nI r_12) (by rw [nI_clamp (by omega)]; show oI (tx tN) = _; rw [htx_12]; rfl) ?_
            refine wd_iast hx hb hK.1 hW hS 0 hR.2.2.1 rfl (vp_in_nI (by omega) (by omega)) dX3_keep_189 (fun H locs hW hS => ?_)
            rw [nI_clamp (by omega)] at hW
            obtain ⟨w_v1, hW, hR⟩ : ∃ w', wd_P D vwCl (wd_A w sg.heap.size) w' H ∧ rW cI m A (fun t => oI (tx t)) (upd (kI kp) kp.length (nI r_12)) (fun r => (rs r).1) (fun r => nI (rs r).2.length) fI kp.length cd pl XD XP XU XO XB w' := ⟨_, hW, hR.afK (upd (kI kp) kp.length (nI r_12))⟩
            rw [upK] at hR
            refine lv_aload_n hx hb dX3_keep_190 rfl (lv_at hl 0 rfl) ?_
            refine lv_dup hx hb dX3_keep_191 rfl ?_
            refine wd_get (ci := 3) (v := .int (nI kp.length)) (C := RX3) (T := TX3) (N := 18) hx hb hts (by decide +kernel) hown hK.1 hW hR.1 rfl 2 (by decide) (hts (.fieldLink RX3 60 "CharRowsModel" "kept" "I") (by decide +kernel)) (fun _ h9 => h9) rfl dX3_keep_192 ?_
            refine lv_iconst (v := 1) hx hb dX3_keep_195 (by decide) ?_
            refine lv_iadd hx hb dX3_keep_196 ?_
            refine wd_topE (y := nI (kp.length + 1)) (nI_1 _) ?_
            refine wd_put (ci := 3) (v := .int (nI (kp.length + 1))) (ty := .int) (C := RX3) (T := TX3) (N := 18) hx hb hts (by decide +kernel) tyX3 tyX3_ok nmX3 hown hK.1 hW hS hR.1 rfl 2 (by decide) (hts (.fieldLink RX3 60 "CharRowsModel" "kept" "I") (by decide +kernel)) (fun _ h9 => h9) rfl (by decide +kernel) rfl rfl (Nat.le_of_ble_eq_true rfl) dX3_keep_197 (fun H locs hW hS => ?_)
            obtain ⟨w_v2, hW, hR⟩ : ∃ w', wd_P D vwCl (wd_A w sg.heap.size) w' H ∧ rW cI m A (fun t => oI (tx t)) (kI (kp ++ [r_12])) (fun r => (rs r).1) (fun r => nI (rs r).2.length) fI (kp.length + 1) cd pl XD XP XU XO XB w' := ⟨_, hW, hR.skc (kp.length + 1)⟩
            refine lv_aload_n hx hb dX3_keep_200 rfl (lv_at hl 0 rfl) ?_
            refine lv_aload_n hx hb dX3_keep_201 rfl (lv_at hl 0 rfl) ?_
            refine wd_get (ci := 3) (v := .int (nI (kp.length + 1))) (C := RX3) (T := TX3) (N := 18) hx hb hts (by decide +kernel) hown hK.1 hW hR.1 rfl 2 (by decide) (hts (.fieldLink RX3 60 "CharRowsModel" "kept" "I") (by decide +kernel)) (fun _ h9 => h9) rfl dX3_keep_202 ?_
            refine lv_iconst (v := 1) hx hb dX3_keep_205 (by decide) ?_
            refine lv_isub hx hb dX3_keep_206 ?_
            refine wd_topE (y := nI kp.length) (nI_pred _) ?_
            refine wd_callVi (As := [.int (nI kp.length)]) (rest := []) (c2 := 0) (s2 := 0) ⟨hx, hb, hml, hown, hts⟩ (k_X3_yes l D cI cT w_v2 H.size m A (fun t => oI (tx t)) (kI (kp ++ [r_12])) (fun r => (rs r).1) (fun r => nI (rs r).2.length) fI (kp.length + 1) cd pl XD XP XU XO XB (nI kp.length) hR) (cwV 1 hts gX3_keep_X3_yes rfl rfl rfl (by decide +kernel) ⟨Nat.le_of_ble_eq_true rfl, Nat.le_of_ble_eq_true rfl⟩) gK_ok hK hW (wd_recv (ci := 3) hK.1 hW rfl hR.1) hS hA rfl hl.1 rfl (Nat.le_of_ble_eq_true rfl) dX3_keep_207 ⟨Nat.le_of_ble_eq_true rfl, Nat.le_of_ble_eq_true rfl⟩ rfl rfl (fun r_207 w_207 H locs hp_207 hW hz hS => ?_)
            obtain ⟨q_r, hR⟩ := hp_207
            subst r_207
            rw [show kp.length + 1 = (kp ++ [r_12]).length by simp] at hR
            refine wd_iret hx hb hr hlocks hW hS dX3_keep_210 ?_
            have e9 : s_keep (cd, pl, df, tx, kp, rs) (nI tN) = (nI kp.length, 0, pl, df, tx, (kp ++ [r_12]), rs) := by simp only [s_keep, if_neg c_4, s_no, if_neg (not_not_intro c_17), show u_kl rs (rs r_12).2 kp 0 = none from hkl.trans (u_kl_end (by omega)), if_neg (show ¬ 12 ≤ kp.length by omega), hcl_t, htx_12]
            show _ = (s_keep (cd, pl, df, tx, kp, rs) (nI tN)).1 ∧ InvR cI m (s_keep (cd, pl, df, tx, kp, rs) (nI tN)).2 _
            rw [e9]
            exact ⟨rfl, A, fI, XD, XP, XU, XO, XB, hR, hdf, hit⟩
          ·
            have c_165 : kp.length = 12 := (nI_eq (by omega) (by omega)).mp (show (nI kp.length = nI 12) from c_165)
            refine lv_aload_n hx hb dX3_keep_168 rfl (lv_at hl 0 rfl) ?_
            refine lv_bipush (v := 6) hx hb dX3_keep_169 (by decide) ?_
            refine wd_callVi (As := [.int 6]) (rest := []) (c2 := 0) (s2 := 0) ⟨hx, hb, hml, hown, hts⟩ (k_X3_no l D cI cT w_l37 H.size m A (fun t => oI (tx t)) (kI kp) (fun r => (rs r).1) (fun r => nI (rs r).2.length) fI kp.length cd pl XD XP XU XO XB 6 hR) (cwV 1 hts gX3_keep_X3_no rfl rfl rfl (by decide +kernel) ⟨Nat.le_of_ble_eq_true rfl, Nat.le_of_ble_eq_true rfl⟩) gK_ok hK hW (wd_recv (ci := 3) hK.1 hW rfl hR.1) hS hA rfl hl.1 rfl (Nat.le_of_ble_eq_true rfl) dX3_keep_171 ⟨Nat.le_of_ble_eq_true rfl, Nat.le_of_ble_eq_true rfl⟩ rfl rfl (fun r_171 w_171 H locs hp_171 hW hz hS => ?_)
            obtain ⟨q_r, hR⟩ := hp_171
            subst r_171
            refine wd_iret hx hb hr hlocks hW hS dX3_keep_174 ?_
            have e9 : s_keep (cd, pl, df, tx, kp, rs) (nI tN) = (0, 6, pl, df, tx, kp, rs) := by simp only [s_keep, if_neg c_4, s_no, if_neg (not_not_intro c_17), show u_kl rs (rs r_12).2 kp 0 = none from hkl.trans (u_kl_end (by omega)), if_pos (show 12 ≤ kp.length by omega), hcl_t, htx_12]
            show _ = (s_keep (cd, pl, df, tx, kp, rs) (nI tN)).1 ∧ InvR cI m (s_keep (cd, pl, df, tx, kp, rs) (nI tN)).2 _
            rw [e9]
            exact ⟨rfl, A, fI, XD, XP, XU, XO, XB, hR, hdf, hit⟩
        ·
          have c_42 : ¬ (kp.length ≤ k) := fun q9 => absurd ((nI_leI (by omega) (by omega)).mpr q9) (show ¬ (nI kp.length ≤ nI k) from c_42)
          refine lv_aload_n hx hb dX3_keep_45 rfl (lv_at hl 0 rfl) ?_
          refine wd_get (ci := 3) (v := .ref (A 3)) (C := RX3) (T := TX3) (N := 18) hx hb hts (by decide +kernel) hown hK.1 hW hR.1 rfl 4 (by decide) (hts (.fieldLink RX3 19 "CharRowsModel" "rowMany" "[I") (by decide +kernel)) (fun _ h9 => h9) rfl dX3_keep_46 ?_
          refine lv_aload_n hx hb dX3_keep_49 rfl (lv_at hl 0 rfl) ?_
          refine wd_get (ci := 3) (v := .ref (A 1)) (C := RX3) (T := TX3) (N := 18) hx hb hts (by decide +kernel) hown hK.1 hW hR.1 rfl 1 (by decide) (hts (.fieldLink RX3 13 "CharRowsModel" "keptRow" "[I") (by decide +kernel)) (fun _ h9 => h9) rfl dX3_keep_50 ?_
          refine lv_iload_n hx hb dX3_keep_53 rfl (lv_at hl 3 rfl) ?_
          refine wd_iald hx hb hK.1 hW 0 hR.2.2.1 rfl (vp_in_nI (by omega) (by omega)) dX3_keep_54 ?_
          obtain ⟨rk, hrk⟩ : ∃ x, kp[k]? = some x := ⟨_, List.getElem?_eq_getElem (by omega)⟩
          have hrk24 := hk24 rk (List.mem_of_getElem? hrk)
          have hrkl := (hit rk hrk24).1
          refine wd_topE (y := nI rk) (by rw [nI_clamp (by omega)]; exact kI_at hrk) ?_
          refine wd_iald hx hb hK.1 hW 0 hR.2.2.2.2.1 rfl (vp_in_nI (by omega) (by omega)) dX3_keep_55 ?_
          refine wd_topE (y := nI (rs rk).2.length) (by rw [nI_clamp (by omega)]) ?_
          refine lv_aload_n hx hb dX3_keep_56 rfl (lv_at hl 0 rfl) ?_
          refine lv_iload_n hx hb dX3_keep_57 rfl (lv_at hl 1 rfl) ?_
          refine wd_callVi (As := [.int (nI tN)]) (rest := [.int (nI ((rs rk).2.length))]) (c2 := 0) (s2 := 0) ⟨hx, hb, hml, hown, hts⟩ (k_X3_manyOf l D cI cT w_l37 H.size m A (kI kp) (fun r => (rs r).1) fI kp.length cd pl XD XP XU XO XB tx rs tN r_12 hR (by omega) htx_12 hr24_12) (cwV 1 hts gX3_keep_X3_manyOf rfl rfl rfl (by decide +kernel) ⟨Nat.le_of_ble_eq_true rfl, Nat.le_of_ble_eq_true rfl⟩) gK_ok hK hW (wd_recv (ci := 3) hK.1 hW rfl hR.1) hS hA rfl hl.1 rfl (Nat.le_of_ble_eq_true rfl) dX3_keep_58 ⟨Nat.le_of_ble_eq_true rfl, Nat.le_of_ble_eq_true rfl⟩ rfl rfl (fun r_58 w_58 H locs hp_58 hW hz hS => ?_)
          obtain ⟨q_r, q_w⟩ := hp_58
          subst r_58
          subst w_58
          refine lv_icmp_ne (tgt := 68) hx hb dX3_keep_61 (by decide) (fun c_61 => ?_) (fun c_61 => ?_)
          ·
            have c_61 : ¬ ((rs rk).2.length = (rs r_12).2.length) := fun q9 => absurd ((nI_eq (by omega) (by omega)).mpr q9) (show ¬ (nI ((rs rk).2.length) = nI ((rs r_12).2.length)) from c_61)
            refine lv_iconst (v := 0) hx hb dX3_keep_68 (by decide) ?_
            refine wd_topE (y := j_b (u_eqq (rs rk).2 (rs r_12).2 0)) (j_bf (fun z => c_61 z.1)) ?_
            refine lv_istore (lv' := [(4, .int (j_b (u_eqq (rs rk).2 (rs r_12).2 0))), (0, .ref m), (1, .int (nI tN)), (2, .int ((rs r_12).1)), (3, .int (nI k))]) hx hb dX3_keep_69 hl (by decide) rfl (fun ls hl => ?_)
            refine lv_iconst (v := 0) hx hb dX3_keep_71 (by decide) ?_
            refine lv_istore (lv' := [(5, .int 0), (4, .int (j_b (u_eqq (rs rk).2 (rs r_12).2 0))), (0, .ref m), (1, .int (nI tN)), (2, .int ((rs r_12).1)), (3, .int (nI k))]) hx hb dX3_keep_72 hl (by decide) rfl (fun ls hl => ?_)
            refine wd_loop1 (fun (q : Nat) (H : Heap) (locs : List Loc) (ls : Array Slot) => (q ≤ (rs r_12).2.length) ∧ (∃ w', wd_P D vwCl (wd_A w sg.heap.size) w' H ∧ rW cI m A (fun t => oI (tx t)) (kI kp) (fun r => (rs r).1) (fun r => nI (rs r).2.length) fI kp.length cd pl XD XP XU XO XB w') ∧ va_S (wd_A w sg.heap.size) sg.heap H locs ∧ lv_has ls 6 [(0, .ref m), (1, .int (nI tN)), (2, .int ((rs r_12).1)), (3, .int (nI k)), (4, .int (j_b (u_eqq (rs rk).2 (rs r_12).2 q))), (5, .int (nI q))]) (fun (q : Nat) => (rs r_12).2.length - q) 0 ⟨(by omega), ⟨_, hW, hR⟩, hS, (lv_sub hl [2, 3, 4, 5, 1, 0] rfl)⟩ (fun q H locs ls hI ih_74 => ?_)
            obtain ⟨hq, ⟨w_l74, hW, hR⟩, hS, hl⟩ := hI
            refine lv_iload hx hb dX3_keep_74 (lv_at hl 5 rfl) ?_
            refine lv_aload_n hx hb dX3_keep_76 rfl (lv_at hl 0 rfl) ?_
            refine lv_iload_n hx hb dX3_keep_77 rfl (lv_at hl 1 rfl) ?_
            refine wd_callVi (As := [.int (nI tN)]) (rest := [.int (nI q)]) (c2 := 0) (s2 := 0) ⟨hx, hb, hml, hown, hts⟩ (k_X3_manyOf l D cI cT w_l74 H.size m A (kI kp) (fun r => (rs r).1) fI kp.length cd pl XD XP XU XO XB tx rs tN r_12 hR (by omega) htx_12 hr24_12) (cwV 1 hts gX3_keep_X3_manyOf rfl rfl rfl (by decide +kernel) ⟨Nat.le_of_ble_eq_true rfl, Nat.le_of_ble_eq_true rfl⟩) gK_ok hK hW (wd_recv (ci := 3) hK.1 hW rfl hR.1) hS hA rfl hl.1 rfl (Nat.le_of_ble_eq_true rfl) dX3_keep_78 ⟨Nat.le_of_ble_eq_true rfl, Nat.le_of_ble_eq_true rfl⟩ rfl rfl (fun r_78 w_78 H locs hp_78 hW hz hS => ?_)
            obtain ⟨q_r, q_w⟩ := hp_78
            subst r_78
            subst w_78
            refine lv_icmp_ge (tgt := 130) hx hb dX3_keep_81 (by decide) (fun c_81 => ?_) (fun c_81 => ?_)
            ·
              have c_81 : (rs r_12).2.length ≤ q := (nI_leI (by omega) (by omega)).mp (show (nI ((rs r_12).2.length) ≤ nI q) from c_81)
              refine lv_iload hx hb dX3_keep_130 (lv_at hl 4 rfl) ?_
              refine lv_if_eq (tgt := 153) hx hb dX3_keep_132 (by decide) (fun c_132 => ?_) (fun c_132 => ?_)
              ·
                have c_132 := j_b0 c_132
                refine lv_iinc (v := nI (k + 1)) (lv' := [(3, .int (nI (k + 1))), (0, .ref m), (1, .int (nI tN)), (2, .int ((rs r_12).1)), (4, .int (j_b (u_eqq (rs rk).2 (rs r_12).2 q))), (5, .int (nI q))]) hx hb dX3_keep_153 hl (k := 3) rfl (nI_add k 1) (by decide) rfl (fun ls hl => ?_)
                refine lv_goto (tgt := 37) hx hb dX3_keep_156 (by decide) ?_
                exact ih_37 (k + 1) H locs ls ⟨(by omega), (hkl.trans (u_kl_miss' hrk (fun z => c_132 ⟨(u_eqq_all.mpr z).1, fun m hm => (u_eqq_all.mpr z).2 m (by omega)⟩))), ⟨_, hW, hR⟩, hS, (lv_sub hl [1, 2, 3, 0] rfl)⟩ (by omega)
              ·
                have c_132 := j_bn c_132
                refine lv_aload_n hx hb dX3_keep_135 rfl (lv_at hl 0 rfl) ?_
                refine wd_get (ci := 3) (v := .ref (A 0)) (C := RX3) (T := TX3) (N := 18) hx hb hts (by decide +kernel) hown hK.1 hW hR.1 rfl 0 (by decide) (hts (.fieldLink RX3 7 "CharRowsModel" "textRow" "[I") (by decide +kernel)) (fun _ h9 => h9) rfl dX3_keep_136 ?_
                refine lv_iload_n hx hb dX3_keep_139 rfl (lv_at hl 1 rfl) ?_
                refine lv_aload_n hx hb dX3_keep_140 rfl (lv_at hl 0 rfl) ?_
                refine wd_get (ci := 3) (v := .ref (A 1)) (C := RX3) (T := TX3) (N := 18) hx hb hts (by decide +kernel) hown hK.1 hW hR.1 rfl 1 (by decide) (hts (.fieldLink RX3 13 "CharRowsModel" "keptRow" "[I") (by decide +kernel)) (fun _ h9 => h9) rfl dX3_keep_141 ?_
                refine lv_iload_n hx hb dX3_keep_144 rfl (lv_at hl 3 rfl) ?_
                refine wd_iald hx hb hK.1 hW 0 hR.2.2.1 rfl (vp_in_nI (by omega) (by omega)) dX3_keep_145 ?_
                refine wd_topE (y := nI rk) (by rw [nI_clamp (by omega)]; exact kI_at hrk) ?_
                refine wd_iast hx hb hK.1 hW hS 0 hR.2.1 rfl (vp_in_nI (by omega) (by omega)) dX3_keep_146 (fun H locs hW hS => ?_)
                rw [nI_clamp (by omega)] at hW
                obtain ⟨w_v3, hW, hR⟩ : ∃ w', wd_P D vwCl (wd_A w sg.heap.size) w' H ∧ rW cI m A (upd (fun t => oI (tx t)) tN (nI rk)) (kI kp) (fun r => (rs r).1) (fun r => nI (rs r).2.length) fI kp.length cd pl XD XP XU XO XB w' := ⟨_, hW, hR.afT (upd (fun t => oI (tx t)) tN (nI rk))⟩
                rw [upT] at hR
                refine lv_aload_n hx hb dX3_keep_147 rfl (lv_at hl 0 rfl) ?_
                refine lv_iload_n hx hb dX3_keep_148 rfl (lv_at hl 3 rfl) ?_
                refine wd_callVi (As := [.int (nI k)]) (rest := []) (c2 := 0) (s2 := 0) ⟨hx, hb, hml, hown, hts⟩ (k_X3_yes l D cI cT w_v3 H.size m A (fun t => oI ((va_up tx tN (some rk)) t)) (kI kp) (fun r => (rs r).1) (fun r => nI (rs r).2.length) fI kp.length cd pl XD XP XU XO XB (nI k) hR) (cwV 1 hts gX3_keep_X3_yes rfl rfl rfl (by decide +kernel) ⟨Nat.le_of_ble_eq_true rfl, Nat.le_of_ble_eq_true rfl⟩) gK_ok hK hW (wd_recv (ci := 3) hK.1 hW rfl hR.1) hS hA rfl hl.1 rfl (Nat.le_of_ble_eq_true rfl) dX3_keep_149 ⟨Nat.le_of_ble_eq_true rfl, Nat.le_of_ble_eq_true rfl⟩ rfl rfl (fun r_149 w_149 H locs hp_149 hW hz hS => ?_)
                obtain ⟨q_r, hR⟩ := hp_149
                subst r_149
                refine wd_iret hx hb hr hlocks hW hS dX3_keep_152 ?_
                have e9 : s_keep (cd, pl, df, tx, kp, rs) (nI tN) = (nI k, 0, pl, df, (va_up tx tN (some rk)), kp, rs) := by simp only [s_keep, if_neg c_4, s_no, if_neg (not_not_intro c_17), show u_kl rs (rs r_12).2 kp 0 = some (k, rk) from hkl.trans (u_kl_hit' hrk (u_eqq_all.mp (by have h9 := c_132; rw [show q = (rs r_12).2.length by omega] at h9; exact h9))), hcl_t, htx_12]
                show _ = (s_keep (cd, pl, df, tx, kp, rs) (nI tN)).1 ∧ InvR cI m (s_keep (cd, pl, df, tx, kp, rs) (nI tN)).2 _
                rw [e9]
                exact ⟨rfl, A, fI, XD, XP, XU, XO, XB, hR, hdf, hit⟩
            ·
              have c_81 : ¬ ((rs r_12).2.length ≤ q) := fun q9 => absurd ((nI_leI (by omega) (by omega)).mpr q9) (show ¬ (nI ((rs r_12).2.length) ≤ nI q) from c_81)
              refine lv_iload hx hb dX3_keep_84 (lv_at hl 4 rfl) ?_
              refine lv_if_eq (tgt := 130) hx hb dX3_keep_86 (by decide) (fun c_86 => ?_) (fun c_86 => ?_)
              ·
                have c_86 := j_b0 c_86
                refine lv_iload hx hb dX3_keep_130 (lv_at hl 4 rfl) ?_
                refine lv_if_eq (tgt := 153) hx hb dX3_keep_132 (by decide) (fun c_132 => ?_) (fun c_132 => ?_)
                ·
                  have c_132 := j_b0 c_132
                  refine lv_iinc (v := nI (k + 1)) (lv' := [(3, .int (nI (k + 1))), (0, .ref m), (1, .int (nI tN)), (2, .int ((rs r_12).1)), (4, .int (j_b (u_eqq (rs rk).2 (rs r_12).2 q))), (5, .int (nI q))]) hx hb dX3_keep_153 hl (k := 3) rfl (nI_add k 1) (by decide) rfl (fun ls hl => ?_)
                  refine lv_goto (tgt := 37) hx hb dX3_keep_156 (by decide) ?_
                  exact ih_37 (k + 1) H locs ls ⟨(by omega), (hkl.trans (u_kl_miss' hrk (fun z => c_86 ⟨(u_eqq_all.mpr z).1, fun m hm => (u_eqq_all.mpr z).2 m (by omega)⟩))), ⟨_, hW, hR⟩, hS, (lv_sub hl [1, 2, 3, 0] rfl)⟩ (by omega)
                ·
                  exact absurd (j_bn c_132) c_86
              ·
                have c_86 := j_bn c_86
                refine lv_aload_n hx hb dX3_keep_89 rfl (lv_at hl 0 rfl) ?_
                refine wd_get (ci := 3) (v := .ref (A 4)) (C := RX3) (T := TX3) (N := 18) hx hb hts (by decide +kernel) hown hK.1 hW hR.1 rfl 5 (by decide) (hts (.fieldLink RX3 22 "CharRowsModel" "rowItem" "[I") (by decide +kernel)) (fun _ h9 => h9) rfl dX3_keep_90 ?_
                refine lv_sipush (v := 240) hx hb dX3_keep_93 (by decide) ?_
                refine lv_aload_n hx hb dX3_keep_96 rfl (lv_at hl 0 rfl) ?_
                refine wd_get (ci := 3) (v := .ref (A 1)) (C := RX3) (T := TX3) (N := 18) hx hb hts (by decide +kernel) hown hK.1 hW hR.1 rfl 1 (by decide) (hts (.fieldLink RX3 13 "CharRowsModel" "keptRow" "[I") (by decide +kernel)) (fun _ h9 => h9) rfl dX3_keep_97 ?_
                refine lv_iload_n hx hb dX3_keep_100 rfl (lv_at hl 3 rfl) ?_
                refine wd_iald hx hb hK.1 hW 0 hR.2.2.1 rfl (vp_in_nI (by omega) (by omega)) dX3_keep_101 ?_
                refine wd_topE (y := nI rk) (by rw [nI_clamp (by omega)]; exact kI_at hrk) ?_
                refine lv_imul hx hb dX3_keep_102 ?_
                refine wd_topE (y := nI (240 * rk)) (pk_mul 240 _) ?_
                refine lv_iload hx hb dX3_keep_103 (lv_at hl 5 rfl) ?_
                refine lv_iadd hx hb dX3_keep_105 ?_
                refine wd_topE (y := nI (240 * rk + q)) (nI_add _ _) ?_
                refine wd_iald hx hb hK.1 hW 0 hR.2.2.2.2.2.1 rfl (vp_in_nI (by have h9 := c_86.1; omega) (by have h9 := c_86.1; omega)) dX3_keep_106 ?_
                refine wd_topE (y := lf (rs rk).2 q) (by rw [nI_clamp (by omega)]; exact (hit rk hrk24).2 q (by have h9 := c_86.1; omega)) ?_
                refine lv_aload_n hx hb dX3_keep_107 rfl (lv_at hl 0 rfl) ?_
                refine lv_iload_n hx hb dX3_keep_108 rfl (lv_at hl 1 rfl) ?_
                refine lv_iload hx hb dX3_keep_109 (lv_at hl 5 rfl) ?_
                refine wd_callVi (As := [.int (nI tN), .int (nI q)]) (rest := [.int (lf (rs rk).2 q)]) (c2 := 0) (s2 := 0) ⟨hx, hb, hml, hown, hts⟩ (k_X3_item l D cI cT w_l74 H.size m A (kI kp) (fun r => (rs r).1) (fun r => nI (rs r).2.length) fI kp.length cd pl XD XP XU XO XB tx rs tN r_12 q hR (by omega) htx_12 hr24_12 hit (by omega)) (cwV 2 hts gX3_keep_X3_item rfl rfl rfl (by decide +kernel) ⟨Nat.le_of_ble_eq_true rfl, Nat.le_of_ble_eq_true rfl⟩) gK_ok hK hW (wd_recv (ci := 3) hK.1 hW rfl hR.1) hS hA rfl hl.1 rfl (Nat.le_of_ble_eq_true rfl) dX3_keep_111 ⟨Nat.le_of_ble_eq_true rfl, Nat.le_of_ble_eq_true rfl⟩ rfl rfl (fun r_111 w_111 H locs hp_111 hW hz hS => ?_)
                obtain ⟨q_r, q_w⟩ := hp_111
                subst r_111
                subst w_111
                refine lv_icmp_ne (tgt := 121) hx hb dX3_keep_114 (by decide) (fun c_114 => ?_) (fun c_114 => ?_)
                ·
                  refine lv_iconst (v := 0) hx hb dX3_keep_121 (by decide) ?_
                  refine wd_topE (y := j_b (u_eqq (rs rk).2 (rs r_12).2 (q + 1))) (j_bf (fun z => c_114 (z.2 q (by omega)))) ?_
                  refine lv_istore (lv' := [(4, .int (j_b (u_eqq (rs rk).2 (rs r_12).2 (q + 1)))), (0, .ref m), (1, .int (nI tN)), (2, .int ((rs r_12).1)), (3, .int (nI k)), (5, .int (nI q))]) hx hb dX3_keep_122 hl (by decide) rfl (fun ls hl => ?_)
                  refine lv_iinc (v := nI (q + 1)) (lv' := [(5, .int (nI (q + 1))), (4, .int (j_b (u_eqq (rs rk).2 (rs r_12).2 (q + 1)))), (0, .ref m), (1, .int (nI tN)), (2, .int ((rs r_12).1)), (3, .int (nI k))]) hx hb dX3_keep_124 hl (k := 5) rfl (nI_add q 1) (by decide) rfl (fun ls hl => ?_)
                  refine lv_goto (tgt := 74) hx hb dX3_keep_127 (by decide) ?_
                  exact ih_74 (q + 1) H locs ls ⟨(by omega), ⟨_, hW, hR⟩, hS, (lv_sub hl [2, 3, 4, 5, 1, 0] rfl)⟩ (by omega)
                ·
                  refine lv_iconst (v := 1) hx hb dX3_keep_117 (by decide) ?_
                  refine wd_topE (y := j_b (u_eqq (rs rk).2 (rs r_12).2 (q + 1))) (j_bt ⟨c_86.1, lt_s c_86.2 c_114⟩) ?_
                  refine lv_goto (tgt := 122) hx hb dX3_keep_118 (by decide) ?_
                  refine lv_istore (lv' := [(4, .int (j_b (u_eqq (rs rk).2 (rs r_12).2 (q + 1)))), (0, .ref m), (1, .int (nI tN)), (2, .int ((rs r_12).1)), (3, .int (nI k)), (5, .int (nI q))]) hx hb dX3_keep_122 hl (by decide) rfl (fun ls hl => ?_)
                  refine lv_iinc (v := nI (q + 1)) (lv' := [(5, .int (nI (q + 1))), (4, .int (j_b (u_eqq (rs rk).2 (rs r_12).2 (q + 1)))), (0, .ref m), (1, .int (nI tN)), (2, .int ((rs r_12).1)), (3, .int (nI k))]) hx hb dX3_keep_124 hl (k := 5) rfl (nI_add q 1) (by decide) rfl (fun ls hl => ?_)
                  refine lv_goto (tgt := 74) hx hb dX3_keep_127 (by decide) ?_
                  exact ih_74 (q + 1) H locs ls ⟨(by omega), ⟨_, hW, hR⟩, hS, (lv_sub hl [2, 3, 4, 5, 1, 0] rfl)⟩ (by omega)
          ·
            have c_61 : (rs rk).2.length = (rs r_12).2.length := (nI_eq (by omega) (by omega)).mp (show (nI ((rs rk).2.length) = nI ((rs r_12).2.length)) from c_61)
            refine lv_iconst (v := 1) hx hb dX3_keep_64 (by decide) ?_
            refine wd_topE (y := j_b (u_eqq (rs rk).2 (rs r_12).2 0)) (j_bt ⟨c_61, fun m hm => absurd hm (Nat.not_lt_zero m)⟩) ?_
            refine lv_goto (tgt := 69) hx hb dX3_keep_65 (by decide) ?_
            refine lv_istore (lv' := [(4, .int (j_b (u_eqq (rs rk).2 (rs r_12).2 0))), (0, .ref m), (1, .int (nI tN)), (2, .int ((rs r_12).1)), (3, .int (nI k))]) hx hb dX3_keep_69 hl (by decide) rfl (fun ls hl => ?_)
            refine lv_iconst (v := 0) hx hb dX3_keep_71 (by decide) ?_
            refine lv_istore (lv' := [(5, .int 0), (4, .int (j_b (u_eqq (rs rk).2 (rs r_12).2 0))), (0, .ref m), (1, .int (nI tN)), (2, .int ((rs r_12).1)), (3, .int (nI k))]) hx hb dX3_keep_72 hl (by decide) rfl (fun ls hl => ?_)
            refine wd_loop1 (fun (q : Nat) (H : Heap) (locs : List Loc) (ls : Array Slot) => (q ≤ (rs r_12).2.length) ∧ (∃ w', wd_P D vwCl (wd_A w sg.heap.size) w' H ∧ rW cI m A (fun t => oI (tx t)) (kI kp) (fun r => (rs r).1) (fun r => nI (rs r).2.length) fI kp.length cd pl XD XP XU XO XB w') ∧ va_S (wd_A w sg.heap.size) sg.heap H locs ∧ lv_has ls 6 [(0, .ref m), (1, .int (nI tN)), (2, .int ((rs r_12).1)), (3, .int (nI k)), (4, .int (j_b (u_eqq (rs rk).2 (rs r_12).2 q))), (5, .int (nI q))]) (fun (q : Nat) => (rs r_12).2.length - q) 0 ⟨(by omega), ⟨_, hW, hR⟩, hS, (lv_sub hl [2, 3, 4, 5, 1, 0] rfl)⟩ (fun q H locs ls hI ih_74 => ?_)
            obtain ⟨hq, ⟨w_l74, hW, hR⟩, hS, hl⟩ := hI
            refine lv_iload hx hb dX3_keep_74 (lv_at hl 5 rfl) ?_
            refine lv_aload_n hx hb dX3_keep_76 rfl (lv_at hl 0 rfl) ?_
            refine lv_iload_n hx hb dX3_keep_77 rfl (lv_at hl 1 rfl) ?_
            refine wd_callVi (As := [.int (nI tN)]) (rest := [.int (nI q)]) (c2 := 0) (s2 := 0) ⟨hx, hb, hml, hown, hts⟩ (k_X3_manyOf l D cI cT w_l74 H.size m A (kI kp) (fun r => (rs r).1) fI kp.length cd pl XD XP XU XO XB tx rs tN r_12 hR (by omega) htx_12 hr24_12) (cwV 1 hts gX3_keep_X3_manyOf rfl rfl rfl (by decide +kernel) ⟨Nat.le_of_ble_eq_true rfl, Nat.le_of_ble_eq_true rfl⟩) gK_ok hK hW (wd_recv (ci := 3) hK.1 hW rfl hR.1) hS hA rfl hl.1 rfl (Nat.le_of_ble_eq_true rfl) dX3_keep_78 ⟨Nat.le_of_ble_eq_true rfl, Nat.le_of_ble_eq_true rfl⟩ rfl rfl (fun r_78 w_78 H locs hp_78 hW hz hS => ?_)
            obtain ⟨q_r, q_w⟩ := hp_78
            subst r_78
            subst w_78
            refine lv_icmp_ge (tgt := 130) hx hb dX3_keep_81 (by decide) (fun c_81 => ?_) (fun c_81 => ?_)
            ·
              have c_81 : (rs r_12).2.length ≤ q := (nI_leI (by omega) (by omega)).mp (show (nI ((rs r_12).2.length) ≤ nI q) from c_81)
              refine lv_iload hx hb dX3_keep_130 (lv_at hl 4 rfl) ?_
              refine lv_if_eq (tgt := 153) hx hb dX3_keep_132 (by decide) (fun c_132 => ?_) (fun c_132 => ?_)
              ·
                have c_132 := j_b0 c_132
                refine lv_iinc (v := nI (k + 1)) (lv' := [(3, .int (nI (k + 1))), (0, .ref m), (1, .int (nI tN)), (2, .int ((rs r_12).1)), (4, .int (j_b (u_eqq (rs rk).2 (rs r_12).2 q))), (5, .int (nI q))]) hx hb dX3_keep_153 hl (k := 3) rfl (nI_add k 1) (by decide) rfl (fun ls hl => ?_)
                refine lv_goto (tgt := 37) hx hb dX3_keep_156 (by decide) ?_
                exact ih_37 (k + 1) H locs ls ⟨(by omega), (hkl.trans (u_kl_miss' hrk (fun z => c_132 ⟨(u_eqq_all.mpr z).1, fun m hm => (u_eqq_all.mpr z).2 m (by omega)⟩))), ⟨_, hW, hR⟩, hS, (lv_sub hl [1, 2, 3, 0] rfl)⟩ (by omega)
              ·
                have c_132 := j_bn c_132
                refine lv_aload_n hx hb dX3_keep_135 rfl (lv_at hl 0 rfl) ?_
                refine wd_get (ci := 3) (v := .ref (A 0)) (C := RX3) (T := TX3) (N := 18) hx hb hts (by decide +kernel) hown hK.1 hW hR.1 rfl 0 (by decide) (hts (.fieldLink RX3 7 "CharRowsModel" "textRow" "[I") (by decide +kernel)) (fun _ h9 => h9) rfl dX3_keep_136 ?_
                refine lv_iload_n hx hb dX3_keep_139 rfl (lv_at hl 1 rfl) ?_
                refine lv_aload_n hx hb dX3_keep_140 rfl (lv_at hl 0 rfl) ?_
                refine wd_get (ci := 3) (v := .ref (A 1)) (C := RX3) (T := TX3) (N := 18) hx hb hts (by decide +kernel) hown hK.1 hW hR.1 rfl 1 (by decide) (hts (.fieldLink RX3 13 "CharRowsModel" "keptRow" "[I") (by decide +kernel)) (fun _ h9 => h9) rfl dX3_keep_141 ?_
                refine lv_iload_n hx hb dX3_keep_144 rfl (lv_at hl 3 rfl) ?_
                refine wd_iald hx hb hK.1 hW 0 hR.2.2.1 rfl (vp_in_nI (by omega) (by omega)) dX3_keep_145 ?_
                refine wd_topE (y := nI rk) (by rw [nI_clamp (by omega)]; exact kI_at hrk) ?_
                refine wd_iast hx hb hK.1 hW hS 0 hR.2.1 rfl (vp_in_nI (by omega) (by omega)) dX3_keep_146 (fun H locs hW hS => ?_)
                rw [nI_clamp (by omega)] at hW
                obtain ⟨w_v4, hW, hR⟩ : ∃ w', wd_P D vwCl (wd_A w sg.heap.size) w' H ∧ rW cI m A (upd (fun t => oI (tx t)) tN (nI rk)) (kI kp) (fun r => (rs r).1) (fun r => nI (rs r).2.length) fI kp.length cd pl XD XP XU XO XB w' := ⟨_, hW, hR.afT (upd (fun t => oI (tx t)) tN (nI rk))⟩
                rw [upT] at hR
                refine lv_aload_n hx hb dX3_keep_147 rfl (lv_at hl 0 rfl) ?_
                refine lv_iload_n hx hb dX3_keep_148 rfl (lv_at hl 3 rfl) ?_
                refine wd_callVi (As := [.int (nI k)]) (rest := []) (c2 := 0) (s2 := 0) ⟨hx, hb, hml, hown, hts⟩ (k_X3_yes l D cI cT w_v4 H.size m A (fun t => oI ((va_up tx tN (some rk)) t)) (kI kp) (fun r => (rs r).1) (fun r => nI (rs r).2.length) fI kp.length cd pl XD XP XU XO XB (nI k) hR) (cwV 1 hts gX3_keep_X3_yes rfl rfl rfl (by decide +kernel) ⟨Nat.le_of_ble_eq_true rfl, Nat.le_of_ble_eq_true rfl⟩) gK_ok hK hW (wd_recv (ci := 3) hK.1 hW rfl hR.1) hS hA rfl hl.1 rfl (Nat.le_of_ble_eq_true rfl) dX3_keep_149 ⟨Nat.le_of_ble_eq_true rfl, Nat.le_of_ble_eq_true rfl⟩ rfl rfl (fun r_149 w_149 H locs hp_149 hW hz hS => ?_)
                obtain ⟨q_r, hR⟩ := hp_149
                subst r_149
                refine wd_iret hx hb hr hlocks hW hS dX3_keep_152 ?_
                have e9 : s_keep (cd, pl, df, tx, kp, rs) (nI tN) = (nI k, 0, pl, df, (va_up tx tN (some rk)), kp, rs) := by simp only [s_keep, if_neg c_4, s_no, if_neg (not_not_intro c_17), show u_kl rs (rs r_12).2 kp 0 = some (k, rk) from hkl.trans (u_kl_hit' hrk (u_eqq_all.mp (by have h9 := c_132; rw [show q = (rs r_12).2.length by omega] at h9; exact h9))), hcl_t, htx_12]
                show _ = (s_keep (cd, pl, df, tx, kp, rs) (nI tN)).1 ∧ InvR cI m (s_keep (cd, pl, df, tx, kp, rs) (nI tN)).2 _
                rw [e9]
                exact ⟨rfl, A, fI, XD, XP, XU, XO, XB, hR, hdf, hit⟩
            ·
              have c_81 : ¬ ((rs r_12).2.length ≤ q) := fun q9 => absurd ((nI_leI (by omega) (by omega)).mpr q9) (show ¬ (nI ((rs r_12).2.length) ≤ nI q) from c_81)
              refine lv_iload hx hb dX3_keep_84 (lv_at hl 4 rfl) ?_
              refine lv_if_eq (tgt := 130) hx hb dX3_keep_86 (by decide) (fun c_86 => ?_) (fun c_86 => ?_)
              ·
                have c_86 := j_b0 c_86
                refine lv_iload hx hb dX3_keep_130 (lv_at hl 4 rfl) ?_
                refine lv_if_eq (tgt := 153) hx hb dX3_keep_132 (by decide) (fun c_132 => ?_) (fun c_132 => ?_)
                ·
                  have c_132 := j_b0 c_132
                  refine lv_iinc (v := nI (k + 1)) (lv' := [(3, .int (nI (k + 1))), (0, .ref m), (1, .int (nI tN)), (2, .int ((rs r_12).1)), (4, .int (j_b (u_eqq (rs rk).2 (rs r_12).2 q))), (5, .int (nI q))]) hx hb dX3_keep_153 hl (k := 3) rfl (nI_add k 1) (by decide) rfl (fun ls hl => ?_)
                  refine lv_goto (tgt := 37) hx hb dX3_keep_156 (by decide) ?_
                  exact ih_37 (k + 1) H locs ls ⟨(by omega), (hkl.trans (u_kl_miss' hrk (fun z => c_86 ⟨(u_eqq_all.mpr z).1, fun m hm => (u_eqq_all.mpr z).2 m (by omega)⟩))), ⟨_, hW, hR⟩, hS, (lv_sub hl [1, 2, 3, 0] rfl)⟩ (by omega)
                ·
                  exact absurd (j_bn c_132) c_86
              ·
                have c_86 := j_bn c_86
                refine lv_aload_n hx hb dX3_keep_89 rfl (lv_at hl 0 rfl) ?_
                refine wd_get (ci := 3) (v := .ref (A 4)) (C := RX3) (T := TX3) (N := 18) hx hb hts (by decide +kernel) hown hK.1 hW hR.1 rfl 5 (by decide) (hts (.fieldLink RX3 22 "CharRowsModel" "rowItem" "[I") (by decide +kernel)) (fun _ h9 => h9) rfl dX3_keep_90 ?_
                refine lv_sipush (v := 240) hx hb dX3_keep_93 (by decide) ?_
                refine lv_aload_n hx hb dX3_keep_96 rfl (lv_at hl 0 rfl) ?_
                refine wd_get (ci := 3) (v := .ref (A 1)) (C := RX3) (T := TX3) (N := 18) hx hb hts (by decide +kernel) hown hK.1 hW hR.1 rfl 1 (by decide) (hts (.fieldLink RX3 13 "CharRowsModel" "keptRow" "[I") (by decide +kernel)) (fun _ h9 => h9) rfl dX3_keep_97 ?_
                refine lv_iload_n hx hb dX3_keep_100 rfl (lv_at hl 3 rfl) ?_
                refine wd_iald hx hb hK.1 hW 0 hR.2.2.1 rfl (vp_in_nI (by omega) (by omega)) dX3_keep_101 ?_
                refine wd_topE (y := nI rk) (by rw [nI_clamp (by omega)]; exact kI_at hrk) ?_
                refine lv_imul hx hb dX3_keep_102 ?_
                refine wd_topE (y := nI (240 * rk)) (pk_mul 240 _) ?_
                refine lv_iload hx hb dX3_keep_103 (lv_at hl 5 rfl) ?_
                refine lv_iadd hx hb dX3_keep_105 ?_
                refine wd_topE (y := nI (240 * rk + q)) (nI_add _ _) ?_
                refine wd_iald hx hb hK.1 hW 0 hR.2.2.2.2.2.1 rfl (vp_in_nI (by have h9 := c_86.1; omega) (by have h9 := c_86.1; omega)) dX3_keep_106 ?_
                refine wd_topE (y := lf (rs rk).2 q) (by rw [nI_clamp (by omega)]; exact (hit rk hrk24).2 q (by have h9 := c_86.1; omega)) ?_
                refine lv_aload_n hx hb dX3_keep_107 rfl (lv_at hl 0 rfl) ?_
                refine lv_iload_n hx hb dX3_keep_108 rfl (lv_at hl 1 rfl) ?_
                refine lv_iload hx hb dX3_keep_109 (lv_at hl 5 rfl) ?_
                refine wd_callVi (As := [.int (nI tN), .int (nI q)]) (rest := [.int (lf (rs rk).2 q)]) (c2 := 0) (s2 := 0) ⟨hx, hb, hml, hown, hts⟩ (k_X3_item l D cI cT w_l74 H.size m A (kI kp) (fun r => (rs r).1) (fun r => nI (rs r).2.length) fI kp.length cd pl XD XP XU XO XB tx rs tN r_12 q hR (by omega) htx_12 hr24_12 hit (by omega)) (cwV 2 hts gX3_keep_X3_item rfl rfl rfl (by decide +kernel) ⟨Nat.le_of_ble_eq_true rfl, Nat.le_of_ble_eq_true rfl⟩) gK_ok hK hW (wd_recv (ci := 3) hK.1 hW rfl hR.1) hS hA rfl hl.1 rfl (Nat.le_of_ble_eq_true rfl) dX3_keep_111 ⟨Nat.le_of_ble_eq_true rfl, Nat.le_of_ble_eq_true rfl⟩ rfl rfl (fun r_111 w_111 H locs hp_111 hW hz hS => ?_)
                obtain ⟨q_r, q_w⟩ := hp_111
                subst r_111
                subst w_111
                refine lv_icmp_ne (tgt := 121) hx hb dX3_keep_114 (by decide) (fun c_114 => ?_) (fun c_114 => ?_)
                ·
                  refine lv_iconst (v := 0) hx hb dX3_keep_121 (by decide) ?_
                  refine wd_topE (y := j_b (u_eqq (rs rk).2 (rs r_12).2 (q + 1))) (j_bf (fun z => c_114 (z.2 q (by omega)))) ?_
                  refine lv_istore (lv' := [(4, .int (j_b (u_eqq (rs rk).2 (rs r_12).2 (q + 1)))), (0, .ref m), (1, .int (nI tN)), (2, .int ((rs r_12).1)), (3, .int (nI k)), (5, .int (nI q))]) hx hb dX3_keep_122 hl (by decide) rfl (fun ls hl => ?_)
                  refine lv_iinc (v := nI (q + 1)) (lv' := [(5, .int (nI (q + 1))), (4, .int (j_b (u_eqq (rs rk).2 (rs r_12).2 (q + 1)))), (0, .ref m), (1, .int (nI tN)), (2, .int ((rs r_12).1)), (3, .int (nI k))]) hx hb dX3_keep_124 hl (k := 5) rfl (nI_add q 1) (by decide) rfl (fun ls hl => ?_)
                  refine lv_goto (tgt := 74) hx hb dX3_keep_127 (by decide) ?_
                  exact ih_74 (q + 1) H locs ls ⟨(by omega), ⟨_, hW, hR⟩, hS, (lv_sub hl [2, 3, 4, 5, 1, 0] rfl)⟩ (by omega)
                ·
                  refine lv_iconst (v := 1) hx hb dX3_keep_117 (by decide) ?_
                  refine wd_topE (y := j_b (u_eqq (rs rk).2 (rs r_12).2 (q + 1))) (j_bt ⟨c_86.1, lt_s c_86.2 c_114⟩) ?_
                  refine lv_goto (tgt := 122) hx hb dX3_keep_118 (by decide) ?_
                  refine lv_istore (lv' := [(4, .int (j_b (u_eqq (rs rk).2 (rs r_12).2 (q + 1)))), (0, .ref m), (1, .int (nI tN)), (2, .int ((rs r_12).1)), (3, .int (nI k)), (5, .int (nI q))]) hx hb dX3_keep_122 hl (by decide) rfl (fun ls hl => ?_)
                  refine lv_iinc (v := nI (q + 1)) (lv' := [(5, .int (nI (q + 1))), (4, .int (j_b (u_eqq (rs rk).2 (rs r_12).2 (q + 1)))), (0, .ref m), (1, .int (nI tN)), (2, .int ((rs r_12).1)), (3, .int (nI k))]) hx hb dX3_keep_124 hl (k := 5) rfl (nI_add q 1) (by decide) rfl (fun ls hl => ?_)
                  refine lv_goto (tgt := 74) hx hb dX3_keep_127 (by decide) ?_
                  exact ih_74 (q + 1) H locs ls ⟨(by omega), ⟨_, hW, hR⟩, hS, (lv_sub hl [2, 3, 4, 5, 1, 0] rfl)⟩ (by omega)
      ·
        refine lv_aload_n hx hb dX3_keep_20 rfl (lv_at hl 1 rfl) ?_
        refine lv_iload_n hx hb dX3_keep_21 rfl (lv_at hl 0 rfl) ?_
        refine lv_iconst (v := (-1)) hx hb dX3_keep_22 (by decide) ?_
        refine lv_icmp_ne (tgt := 30) hx hb dX3_keep_23 (by decide) (fun c_23 => ?_) (fun c_23 => ?_)
        ·
          refine lv_iconst (v := 2) hx hb dX3_keep_30 (by decide) ?_
          refine wd_callVi (As := [.int 2]) (rest := []) (c2 := 0) (s2 := 0) ⟨hx, hb, hml, hown, hts⟩ (k_X3_no l D cI cT w H.size m A (fun t => oI (tx t)) (kI kp) (fun r => (rs r).1) (fun r => nI (rs r).2.length) fI kp.length cd pl XD XP XU XO XB 2 hR) (cwV 1 hts gX3_keep_X3_no rfl rfl rfl (by decide +kernel) ⟨Nat.le_of_ble_eq_true rfl, Nat.le_of_ble_eq_true rfl⟩) gK_ok hK hW (wd_recv (ci := 3) hK.1 hW rfl hR.1) hS hA rfl hl.1 rfl (Nat.le_of_ble_eq_true rfl) dX3_keep_31 ⟨Nat.le_of_ble_eq_true rfl, Nat.le_of_ble_eq_true rfl⟩ rfl rfl (fun r_31 w_31 H locs hp_31 hW hz hS => ?_)
          obtain ⟨q_r, hR⟩ := hp_31
          subst r_31
          refine wd_iret hx hb hr hlocks hW hS dX3_keep_34 ?_
          have e9 : s_keep (cd, pl, df, tx, kp, rs) (nI tN) = (0, 2, pl, df, tx, kp, rs) := by simp only [s_keep, if_neg c_4, s_no, if_pos c_17, hcl_t, htx_12]
          show _ = (s_keep (cd, pl, df, tx, kp, rs) (nI tN)).1 ∧ InvR cI m (s_keep (cd, pl, df, tx, kp, rs) (nI tN)).2 _
          rw [e9]
          exact ⟨rfl, A, fI, XD, XP, XU, XO, XB, hR, hdf, hit⟩
        ·
          exact absurd c_23 (hok _ _ htx_12).nm1
  ·
    have c_4 := nt_of (j_b0 c_4)
    refine lv_ldc (v := (-2000000001)) hx hb hown (hts (.constant RX3 107 (-2000000001)) (by decide +kernel)) dX3_keep_7 ?_
    refine wd_iret hx hb hr hlocks hW hS dX3_keep_9 ?_
    have e9 : s_keep (cd, pl, df, tx, kp, rs) t = ((-2000000001), cd, pl, df, tx, kp, rs) := by simp only [s_keep, if_pos c_4, s_no]
    show _ = (s_keep (cd, pl, df, tx, kp, rs) t).1 ∧ InvR cI m (s_keep (cd, pl, df, tx, kp, rs) t).2 _
    rw [e9]
    exact ⟨rfl, A, fI, XD, XP, XU, XO, XB, hR, hdf, hit⟩
set_option maxHeartbeats 4000000 in
set_option maxRecDepth 100000 in
theorem k_X3_init (l : Launch) (D : va_G) (cI cT : ClassId) (w : Wd) (sz : Nat) (m : Nat) (h0 : w m = some (.inr (3, [.null, .null, .int 0, .null, .null, .null, .null, .int 0, .int 0, .int 0, .null, .int 0, .null, .int 0, .null, .int 0, .int 0, .null]))) : wd_Mv l D vwCl (gK D cI cT) yX3_init wsX3_init (wd_rm 1 10 7570) [.ref m] w sz (fun w' => InvR cI m ((0 : Int32), (-1 : Int32), ([] : List Int32), (fun _ => none : Nat → Option Nat), ([] : List Nat), (fun _ => (0, []) : Rws)) w') := by
  refine wd_met (cc := cX3_init) (maxL := 2) (ret := none) (by decide) rfl (Nat.le_of_ble_eq_true rfl) ?_
  intro pg ev sg mi bl mt cde ls C0 hsz hK hW hl
  obtain ⟨hx, hb, hr, hml, hown, hts, hlocks, hnm⟩ := C0
  subst hsz
  have hown : sg.vm.findClass RX3 = some mi.cls := hown
  have hS : va_S (wd_A w sg.heap.size) sg.heap sg.heap [] := va_S.rf
  have hA : ∀ q, sg.heap.size ≤ q → wd_A w sg.heap.size q := fun q h => Or.inr h
  have hl : lv_has ls 2 [(0, .ref m)] := hl
  refine lv_aload_n hx hb dX3_init_0 rfl (lv_at hl 0 rfl) ?_
  refine W.objInit hx hb hown (hts (.methodLink RX3 1 objectInit) (by decide +kernel)) (hts (.instanceMethod objectInit) (by decide +kernel)) (hts (.code objectInit ⟨#[0xb1]⟩ 1 none) (by decide +kernel)) rfl (by rw [hml]; exact hl.1) rfl dX3_init_1 (Nat.le_of_ble_eq_true rfl) (Nat.le_of_ble_eq_true rfl) ?_
  refine W.eq (g2 := F0 mi 4 ls []) rfl ?_
  refine lv_aload_n hx hb dX3_init_4 rfl (lv_at hl 0 rfl) ?_
  refine lv_bipush (v := 10) hx hb dX3_init_5 (by decide) ?_
  refine wd_newi (N' := 10) hx hb (hts (.arrayClass .int) (by decide +kernel)) hK.1 0 rfl hW hS hA (nI_pos (n := 10) (by omega)) (nI_clamp (n := 10) (by omega)) (by omega) (Nat.le_of_ble_eq_true rfl) (Nat.le_of_ble_eq_true rfl) dX3_init_7 (fun q7 H hq7 hW hS => ?_)
  refine W.widen (k := 1) (n := 10) (by omega) (by omega) ?_
  have ne_m_q7 : m ≠ q7 := wd_fresh hq7 h0
  have f1_m : (wd_up w q7 (.inl (cI, 10, .inl (fun _ => 0)))) m = some (.inr (3, [.null, .null, .int 0, .null, .null, .null, .null, .int 0, .int 0, .int 0, .null, .int 0, .null, .int 0, .null, .int 0, .int 0, .null])) := (wd_up_ne _ _ (wd_fresh hq7 h0)).trans h0
  have f1_q7 : (wd_up w q7 (.inl (cI, 10, .inl (fun _ => 0)))) q7 = some (.inl (cI, 10, .inl (fun _ => 0))) := wd_up_self _ _ _
  obtain ⟨w_a2, hW, g2_m, g2_q7⟩ : ∃ w', wd_P D vwCl (wd_A w sg.heap.size) w' H ∧ w' m = some (.inr (3, [.null, .null, .int 0, .null, .null, .null, .null, .int 0, .int 0, .int 0, .null, .int 0, .null, .int 0, .null, .int 0, .int 0, .null])) ∧ w' q7 = some (.inl (cI, 10, .inl (fun _ => 0))) := ⟨_, hW, f1_m, f1_q7⟩
  refine wd_putF (ci := 3) (v := .ref q7) (ty := (.array .int)) (C := RX3) (T := TX3) (N := 18) hx hb hts (by decide +kernel) tyX3 tyX3_ok nmX3 hown hK.1 hW hS g2_m rfl 0 (by decide) (hts (.fieldLink RX3 7 "CharRowsModel" "textRow" "[I") (by decide +kernel)) (fun _ h9 => h9) rfl hnm rfl (by decide +kernel) rfl rfl (Nat.le_of_ble_eq_true rfl) dX3_init_9 (fun H locs hW hS => ?_)
  have f3_m : (wd_up w_a2 m (.inr (3, [.ref q7, .null, .int 0, .null, .null, .null, .null, .int 0, .int 0, .int 0, .null, .int 0, .null, .int 0, .null, .int 0, .int 0, .null]))) m = some (.inr (3, [.ref q7, .null, .int 0, .null, .null, .null, .null, .int 0, .int 0, .int 0, .null, .int 0, .null, .int 0, .null, .int 0, .int 0, .null])) := wd_up_self _ _ _
  have f3_q7 : (wd_up w_a2 m (.inr (3, [.ref q7, .null, .int 0, .null, .null, .null, .null, .int 0, .int 0, .int 0, .null, .int 0, .null, .int 0, .null, .int 0, .int 0, .null]))) q7 = some (.inl (cI, 10, .inl (fun _ => 0))) := (wd_up_ne _ _ (Ne.symm ne_m_q7)).trans g2_q7
  obtain ⟨w_a4, hW, g4_m, g4_q7⟩ : ∃ w', wd_P D vwCl (wd_A w sg.heap.size) w' H ∧ w' m = some (.inr (3, [.ref q7, .null, .int 0, .null, .null, .null, .null, .int 0, .int 0, .int 0, .null, .int 0, .null, .int 0, .null, .int 0, .int 0, .null])) ∧ w' q7 = some (.inl (cI, 10, .inl (fun _ => 0))) := ⟨_, hW, f3_m, f3_q7⟩
  refine lv_aload_n hx hb dX3_init_12 rfl (lv_at hl 0 rfl) ?_
  refine lv_bipush (v := 12) hx hb dX3_init_13 (by decide) ?_
  refine wd_newi (N' := 12) hx hb (hts (.arrayClass .int) (by decide +kernel)) hK.1 0 rfl hW hS hA (nI_pos (n := 12) (by omega)) (nI_clamp (n := 12) (by omega)) (by omega) (Nat.le_of_ble_eq_true rfl) (Nat.le_of_ble_eq_true rfl) dX3_init_15 (fun q15 H hq15 hW hS => ?_)
  refine W.widen (k := 2) (n := 22) (by omega) (by omega) ?_
  have ne_m_q15 : m ≠ q15 := wd_fresh hq15 g4_m
  have ne_q7_q15 : q7 ≠ q15 := wd_fresh hq15 g4_q7
  have f5_m : (wd_up w_a4 q15 (.inl (cI, 12, .inl (fun _ => 0)))) m = some (.inr (3, [.ref q7, .null, .int 0, .null, .null, .null, .null, .int 0, .int 0, .int 0, .null, .int 0, .null, .int 0, .null, .int 0, .int 0, .null])) := (wd_up_ne _ _ (wd_fresh hq15 g4_m)).trans g4_m
  have f5_q7 : (wd_up w_a4 q15 (.inl (cI, 12, .inl (fun _ => 0)))) q7 = some (.inl (cI, 10, .inl (fun _ => 0))) := (wd_up_ne _ _ (wd_fresh hq15 g4_q7)).trans g4_q7
  have f5_q15 : (wd_up w_a4 q15 (.inl (cI, 12, .inl (fun _ => 0)))) q15 = some (.inl (cI, 12, .inl (fun _ => 0))) := wd_up_self _ _ _
  obtain ⟨w_a6, hW, g6_m, g6_q7, g6_q15⟩ : ∃ w', wd_P D vwCl (wd_A w sg.heap.size) w' H ∧ w' m = some (.inr (3, [.ref q7, .null, .int 0, .null, .null, .null, .null, .int 0, .int 0, .int 0, .null, .int 0, .null, .int 0, .null, .int 0, .int 0, .null])) ∧ w' q7 = some (.inl (cI, 10, .inl (fun _ => 0))) ∧ w' q15 = some (.inl (cI, 12, .inl (fun _ => 0))) := ⟨_, hW, f5_m, f5_q7, f5_q15⟩
  refine wd_putF (ci := 3) (v := .ref q15) (ty := (.array .int)) (C := RX3) (T := TX3) (N := 18) hx hb hts (by decide +kernel) tyX3 tyX3_ok nmX3 hown hK.1 hW hS g6_m rfl 1 (by decide) (hts (.fieldLink RX3 13 "CharRowsModel" "keptRow" "[I") (by decide +kernel)) (fun _ h9 => h9) rfl hnm rfl (by decide +kernel) rfl rfl (Nat.le_of_ble_eq_true rfl) dX3_init_17 (fun H locs hW hS => ?_)
  have f7_m : (wd_up w_a6 m (.inr (3, [.ref q7, .ref q15, .int 0, .null, .null, .null, .null, .int 0, .int 0, .int 0, .null, .int 0, .null, .int 0, .null, .int 0, .int 0, .null]))) m = some (.inr (3, [.ref q7, .ref q15, .int 0, .null, .null, .null, .null, .int 0, .int 0, .int 0, .null, .int 0, .null, .int 0, .null, .int 0, .int 0, .null])) := wd_up_self _ _ _
  have f7_q7 : (wd_up w_a6 m (.inr (3, [.ref q7, .ref q15, .int 0, .null, .null, .null, .null, .int 0, .int 0, .int 0, .null, .int 0, .null, .int 0, .null, .int 0, .int 0, .null]))) q7 = some (.inl (cI, 10, .inl (fun _ => 0))) := (wd_up_ne _ _ (Ne.symm ne_m_q7)).trans g6_q7
  have f7_q15 : (wd_up w_a6 m (.inr (3, [.ref q7, .ref q15, .int 0, .null, .null, .null, .null, .int 0, .int 0, .int 0, .null, .int 0, .null, .int 0, .null, .int 0, .int 0, .null]))) q15 = some (.inl (cI, 12, .inl (fun _ => 0))) := (wd_up_ne _ _ (Ne.symm ne_m_q15)).trans g6_q15
  obtain ⟨w_a8, hW, g8_m, g8_q7, g8_q15⟩ : ∃ w', wd_P D vwCl (wd_A w sg.heap.size) w' H ∧ w' m = some (.inr (3, [.ref q7, .ref q15, .int 0, .null, .null, .null, .null, .int 0, .int 0, .int 0, .null, .int 0, .null, .int 0, .null, .int 0, .int 0, .null])) ∧ w' q7 = some (.inl (cI, 10, .inl (fun _ => 0))) ∧ w' q15 = some (.inl (cI, 12, .inl (fun _ => 0))) := ⟨_, hW, f7_m, f7_q7, f7_q15⟩
  refine lv_aload_n hx hb dX3_init_20 rfl (lv_at hl 0 rfl) ?_
  refine lv_bipush (v := 24) hx hb dX3_init_21 (by decide) ?_
  refine wd_newi (N' := 24) hx hb (hts (.arrayClass .int) (by decide +kernel)) hK.1 0 rfl hW hS hA (nI_pos (n := 24) (by omega)) (nI_clamp (n := 24) (by omega)) (by omega) (Nat.le_of_ble_eq_true rfl) (Nat.le_of_ble_eq_true rfl) dX3_init_23 (fun q23 H hq23 hW hS => ?_)
  refine W.widen (k := 3) (n := 46) (by omega) (by omega) ?_
  have ne_m_q23 : m ≠ q23 := wd_fresh hq23 g8_m
  have ne_q7_q23 : q7 ≠ q23 := wd_fresh hq23 g8_q7
  have ne_q15_q23 : q15 ≠ q23 := wd_fresh hq23 g8_q15
  have f9_m : (wd_up w_a8 q23 (.inl (cI, 24, .inl (fun _ => 0)))) m = some (.inr (3, [.ref q7, .ref q15, .int 0, .null, .null, .null, .null, .int 0, .int 0, .int 0, .null, .int 0, .null, .int 0, .null, .int 0, .int 0, .null])) := (wd_up_ne _ _ (wd_fresh hq23 g8_m)).trans g8_m
  have f9_q7 : (wd_up w_a8 q23 (.inl (cI, 24, .inl (fun _ => 0)))) q7 = some (.inl (cI, 10, .inl (fun _ => 0))) := (wd_up_ne _ _ (wd_fresh hq23 g8_q7)).trans g8_q7
  have f9_q15 : (wd_up w_a8 q23 (.inl (cI, 24, .inl (fun _ => 0)))) q15 = some (.inl (cI, 12, .inl (fun _ => 0))) := (wd_up_ne _ _ (wd_fresh hq23 g8_q15)).trans g8_q15
  have f9_q23 : (wd_up w_a8 q23 (.inl (cI, 24, .inl (fun _ => 0)))) q23 = some (.inl (cI, 24, .inl (fun _ => 0))) := wd_up_self _ _ _
  obtain ⟨w_a10, hW, g10_m, g10_q7, g10_q15, g10_q23⟩ : ∃ w', wd_P D vwCl (wd_A w sg.heap.size) w' H ∧ w' m = some (.inr (3, [.ref q7, .ref q15, .int 0, .null, .null, .null, .null, .int 0, .int 0, .int 0, .null, .int 0, .null, .int 0, .null, .int 0, .int 0, .null])) ∧ w' q7 = some (.inl (cI, 10, .inl (fun _ => 0))) ∧ w' q15 = some (.inl (cI, 12, .inl (fun _ => 0))) ∧ w' q23 = some (.inl (cI, 24, .inl (fun _ => 0))) := ⟨_, hW, f9_m, f9_q7, f9_q15, f9_q23⟩
  refine wd_putF (ci := 3) (v := .ref q23) (ty := (.array .int)) (C := RX3) (T := TX3) (N := 18) hx hb hts (by decide +kernel) tyX3 tyX3_ok nmX3 hown hK.1 hW hS g10_m rfl 3 (by decide) (hts (.fieldLink RX3 16 "CharRowsModel" "rowSort" "[I") (by decide +kernel)) (fun _ h9 => h9) rfl hnm rfl (by decide +kernel) rfl rfl (Nat.le_of_ble_eq_true rfl) dX3_init_25 (fun H locs hW hS => ?_)
  have f11_m : (wd_up w_a10 m (.inr (3, [.ref q7, .ref q15, .int 0, .ref q23, .null, .null, .null, .int 0, .int 0, .int 0, .null, .int 0, .null, .int 0, .null, .int 0, .int 0, .null]))) m = some (.inr (3, [.ref q7, .ref q15, .int 0, .ref q23, .null, .null, .null, .int 0, .int 0, .int 0, .null, .int 0, .null, .int 0, .null, .int 0, .int 0, .null])) := wd_up_self _ _ _
  have f11_q7 : (wd_up w_a10 m (.inr (3, [.ref q7, .ref q15, .int 0, .ref q23, .null, .null, .null, .int 0, .int 0, .int 0, .null, .int 0, .null, .int 0, .null, .int 0, .int 0, .null]))) q7 = some (.inl (cI, 10, .inl (fun _ => 0))) := (wd_up_ne _ _ (Ne.symm ne_m_q7)).trans g10_q7
  have f11_q15 : (wd_up w_a10 m (.inr (3, [.ref q7, .ref q15, .int 0, .ref q23, .null, .null, .null, .int 0, .int 0, .int 0, .null, .int 0, .null, .int 0, .null, .int 0, .int 0, .null]))) q15 = some (.inl (cI, 12, .inl (fun _ => 0))) := (wd_up_ne _ _ (Ne.symm ne_m_q15)).trans g10_q15
  have f11_q23 : (wd_up w_a10 m (.inr (3, [.ref q7, .ref q15, .int 0, .ref q23, .null, .null, .null, .int 0, .int 0, .int 0, .null, .int 0, .null, .int 0, .null, .int 0, .int 0, .null]))) q23 = some (.inl (cI, 24, .inl (fun _ => 0))) := (wd_up_ne _ _ (Ne.symm ne_m_q23)).trans g10_q23
  obtain ⟨w_a12, hW, g12_m, g12_q7, g12_q15, g12_q23⟩ : ∃ w', wd_P D vwCl (wd_A w sg.heap.size) w' H ∧ w' m = some (.inr (3, [.ref q7, .ref q15, .int 0, .ref q23, .null, .null, .null, .int 0, .int 0, .int 0, .null, .int 0, .null, .int 0, .null, .int 0, .int 0, .null])) ∧ w' q7 = some (.inl (cI, 10, .inl (fun _ => 0))) ∧ w' q15 = some (.inl (cI, 12, .inl (fun _ => 0))) ∧ w' q23 = some (.inl (cI, 24, .inl (fun _ => 0))) := ⟨_, hW, f11_m, f11_q7, f11_q15, f11_q23⟩
  refine lv_aload_n hx hb dX3_init_28 rfl (lv_at hl 0 rfl) ?_
  refine lv_bipush (v := 24) hx hb dX3_init_29 (by decide) ?_
  refine wd_newi (N' := 24) hx hb (hts (.arrayClass .int) (by decide +kernel)) hK.1 0 rfl hW hS hA (nI_pos (n := 24) (by omega)) (nI_clamp (n := 24) (by omega)) (by omega) (Nat.le_of_ble_eq_true rfl) (Nat.le_of_ble_eq_true rfl) dX3_init_31 (fun q31 H hq31 hW hS => ?_)
  refine W.widen (k := 4) (n := 70) (by omega) (by omega) ?_
  have ne_m_q31 : m ≠ q31 := wd_fresh hq31 g12_m
  have ne_q7_q31 : q7 ≠ q31 := wd_fresh hq31 g12_q7
  have ne_q15_q31 : q15 ≠ q31 := wd_fresh hq31 g12_q15
  have ne_q23_q31 : q23 ≠ q31 := wd_fresh hq31 g12_q23
  have f13_m : (wd_up w_a12 q31 (.inl (cI, 24, .inl (fun _ => 0)))) m = some (.inr (3, [.ref q7, .ref q15, .int 0, .ref q23, .null, .null, .null, .int 0, .int 0, .int 0, .null, .int 0, .null, .int 0, .null, .int 0, .int 0, .null])) := (wd_up_ne _ _ (wd_fresh hq31 g12_m)).trans g12_m
  have f13_q7 : (wd_up w_a12 q31 (.inl (cI, 24, .inl (fun _ => 0)))) q7 = some (.inl (cI, 10, .inl (fun _ => 0))) := (wd_up_ne _ _ (wd_fresh hq31 g12_q7)).trans g12_q7
  have f13_q15 : (wd_up w_a12 q31 (.inl (cI, 24, .inl (fun _ => 0)))) q15 = some (.inl (cI, 12, .inl (fun _ => 0))) := (wd_up_ne _ _ (wd_fresh hq31 g12_q15)).trans g12_q15
  have f13_q23 : (wd_up w_a12 q31 (.inl (cI, 24, .inl (fun _ => 0)))) q23 = some (.inl (cI, 24, .inl (fun _ => 0))) := (wd_up_ne _ _ (wd_fresh hq31 g12_q23)).trans g12_q23
  have f13_q31 : (wd_up w_a12 q31 (.inl (cI, 24, .inl (fun _ => 0)))) q31 = some (.inl (cI, 24, .inl (fun _ => 0))) := wd_up_self _ _ _
  obtain ⟨w_a14, hW, g14_m, g14_q7, g14_q15, g14_q23, g14_q31⟩ : ∃ w', wd_P D vwCl (wd_A w sg.heap.size) w' H ∧ w' m = some (.inr (3, [.ref q7, .ref q15, .int 0, .ref q23, .null, .null, .null, .int 0, .int 0, .int 0, .null, .int 0, .null, .int 0, .null, .int 0, .int 0, .null])) ∧ w' q7 = some (.inl (cI, 10, .inl (fun _ => 0))) ∧ w' q15 = some (.inl (cI, 12, .inl (fun _ => 0))) ∧ w' q23 = some (.inl (cI, 24, .inl (fun _ => 0))) ∧ w' q31 = some (.inl (cI, 24, .inl (fun _ => 0))) := ⟨_, hW, f13_m, f13_q7, f13_q15, f13_q23, f13_q31⟩
  refine wd_putF (ci := 3) (v := .ref q31) (ty := (.array .int)) (C := RX3) (T := TX3) (N := 18) hx hb hts (by decide +kernel) tyX3 tyX3_ok nmX3 hown hK.1 hW hS g14_m rfl 4 (by decide) (hts (.fieldLink RX3 19 "CharRowsModel" "rowMany" "[I") (by decide +kernel)) (fun _ h9 => h9) rfl hnm rfl (by decide +kernel) rfl rfl (Nat.le_of_ble_eq_true rfl) dX3_init_33 (fun H locs hW hS => ?_)
  have f15_m : (wd_up w_a14 m (.inr (3, [.ref q7, .ref q15, .int 0, .ref q23, .ref q31, .null, .null, .int 0, .int 0, .int 0, .null, .int 0, .null, .int 0, .null, .int 0, .int 0, .null]))) m = some (.inr (3, [.ref q7, .ref q15, .int 0, .ref q23, .ref q31, .null, .null, .int 0, .int 0, .int 0, .null, .int 0, .null, .int 0, .null, .int 0, .int 0, .null])) := wd_up_self _ _ _
  have f15_q7 : (wd_up w_a14 m (.inr (3, [.ref q7, .ref q15, .int 0, .ref q23, .ref q31, .null, .null, .int 0, .int 0, .int 0, .null, .int 0, .null, .int 0, .null, .int 0, .int 0, .null]))) q7 = some (.inl (cI, 10, .inl (fun _ => 0))) := (wd_up_ne _ _ (Ne.symm ne_m_q7)).trans g14_q7
  have f15_q15 : (wd_up w_a14 m (.inr (3, [.ref q7, .ref q15, .int 0, .ref q23, .ref q31, .null, .null, .int 0, .int 0, .int 0, .null, .int 0, .null, .int 0, .null, .int 0, .int 0, .null]))) q15 = some (.inl (cI, 12, .inl (fun _ => 0))) := (wd_up_ne _ _ (Ne.symm ne_m_q15)).trans g14_q15
  have f15_q23 : (wd_up w_a14 m (.inr (3, [.ref q7, .ref q15, .int 0, .ref q23, .ref q31, .null, .null, .int 0, .int 0, .int 0, .null, .int 0, .null, .int 0, .null, .int 0, .int 0, .null]))) q23 = some (.inl (cI, 24, .inl (fun _ => 0))) := (wd_up_ne _ _ (Ne.symm ne_m_q23)).trans g14_q23
  have f15_q31 : (wd_up w_a14 m (.inr (3, [.ref q7, .ref q15, .int 0, .ref q23, .ref q31, .null, .null, .int 0, .int 0, .int 0, .null, .int 0, .null, .int 0, .null, .int 0, .int 0, .null]))) q31 = some (.inl (cI, 24, .inl (fun _ => 0))) := (wd_up_ne _ _ (Ne.symm ne_m_q31)).trans g14_q31
  obtain ⟨w_a16, hW, g16_m, g16_q7, g16_q15, g16_q23, g16_q31⟩ : ∃ w', wd_P D vwCl (wd_A w sg.heap.size) w' H ∧ w' m = some (.inr (3, [.ref q7, .ref q15, .int 0, .ref q23, .ref q31, .null, .null, .int 0, .int 0, .int 0, .null, .int 0, .null, .int 0, .null, .int 0, .int 0, .null])) ∧ w' q7 = some (.inl (cI, 10, .inl (fun _ => 0))) ∧ w' q15 = some (.inl (cI, 12, .inl (fun _ => 0))) ∧ w' q23 = some (.inl (cI, 24, .inl (fun _ => 0))) ∧ w' q31 = some (.inl (cI, 24, .inl (fun _ => 0))) := ⟨_, hW, f15_m, f15_q7, f15_q15, f15_q23, f15_q31⟩
  refine lv_aload_n hx hb dX3_init_36 rfl (lv_at hl 0 rfl) ?_
  refine lv_sipush (v := 5760) hx hb dX3_init_37 (by decide) ?_
  refine wd_newi (N' := 5760) hx hb (hts (.arrayClass .int) (by decide +kernel)) hK.1 0 rfl hW hS hA (nI_pos (n := 5760) (by omega)) (nI_clamp (n := 5760) (by omega)) (by omega) (Nat.le_of_ble_eq_true rfl) (Nat.le_of_ble_eq_true rfl) dX3_init_40 (fun q40 H hq40 hW hS => ?_)
  refine W.widen (k := 5) (n := 5830) (by omega) (by omega) ?_
  have ne_m_q40 : m ≠ q40 := wd_fresh hq40 g16_m
  have ne_q7_q40 : q7 ≠ q40 := wd_fresh hq40 g16_q7
  have ne_q15_q40 : q15 ≠ q40 := wd_fresh hq40 g16_q15
  have ne_q23_q40 : q23 ≠ q40 := wd_fresh hq40 g16_q23
  have ne_q31_q40 : q31 ≠ q40 := wd_fresh hq40 g16_q31
  have f17_m : (wd_up w_a16 q40 (.inl (cI, 5760, .inl (fun _ => 0)))) m = some (.inr (3, [.ref q7, .ref q15, .int 0, .ref q23, .ref q31, .null, .null, .int 0, .int 0, .int 0, .null, .int 0, .null, .int 0, .null, .int 0, .int 0, .null])) := (wd_up_ne _ _ (wd_fresh hq40 g16_m)).trans g16_m
  have f17_q7 : (wd_up w_a16 q40 (.inl (cI, 5760, .inl (fun _ => 0)))) q7 = some (.inl (cI, 10, .inl (fun _ => 0))) := (wd_up_ne _ _ (wd_fresh hq40 g16_q7)).trans g16_q7
  have f17_q15 : (wd_up w_a16 q40 (.inl (cI, 5760, .inl (fun _ => 0)))) q15 = some (.inl (cI, 12, .inl (fun _ => 0))) := (wd_up_ne _ _ (wd_fresh hq40 g16_q15)).trans g16_q15
  have f17_q23 : (wd_up w_a16 q40 (.inl (cI, 5760, .inl (fun _ => 0)))) q23 = some (.inl (cI, 24, .inl (fun _ => 0))) := (wd_up_ne _ _ (wd_fresh hq40 g16_q23)).trans g16_q23
  have f17_q31 : (wd_up w_a16 q40 (.inl (cI, 5760, .inl (fun _ => 0)))) q31 = some (.inl (cI, 24, .inl (fun _ => 0))) := (wd_up_ne _ _ (wd_fresh hq40 g16_q31)).trans g16_q31
  have f17_q40 : (wd_up w_a16 q40 (.inl (cI, 5760, .inl (fun _ => 0)))) q40 = some (.inl (cI, 5760, .inl (fun _ => 0))) := wd_up_self _ _ _
  obtain ⟨w_a18, hW, g18_m, g18_q7, g18_q15, g18_q23, g18_q31, g18_q40⟩ : ∃ w', wd_P D vwCl (wd_A w sg.heap.size) w' H ∧ w' m = some (.inr (3, [.ref q7, .ref q15, .int 0, .ref q23, .ref q31, .null, .null, .int 0, .int 0, .int 0, .null, .int 0, .null, .int 0, .null, .int 0, .int 0, .null])) ∧ w' q7 = some (.inl (cI, 10, .inl (fun _ => 0))) ∧ w' q15 = some (.inl (cI, 12, .inl (fun _ => 0))) ∧ w' q23 = some (.inl (cI, 24, .inl (fun _ => 0))) ∧ w' q31 = some (.inl (cI, 24, .inl (fun _ => 0))) ∧ w' q40 = some (.inl (cI, 5760, .inl (fun _ => 0))) := ⟨_, hW, f17_m, f17_q7, f17_q15, f17_q23, f17_q31, f17_q40⟩
  refine wd_putF (ci := 3) (v := .ref q40) (ty := (.array .int)) (C := RX3) (T := TX3) (N := 18) hx hb hts (by decide +kernel) tyX3 tyX3_ok nmX3 hown hK.1 hW hS g18_m rfl 5 (by decide) (hts (.fieldLink RX3 22 "CharRowsModel" "rowItem" "[I") (by decide +kernel)) (fun _ h9 => h9) rfl hnm rfl (by decide +kernel) rfl rfl (Nat.le_of_ble_eq_true rfl) dX3_init_42 (fun H locs hW hS => ?_)
  have f19_m : (wd_up w_a18 m (.inr (3, [.ref q7, .ref q15, .int 0, .ref q23, .ref q31, .ref q40, .null, .int 0, .int 0, .int 0, .null, .int 0, .null, .int 0, .null, .int 0, .int 0, .null]))) m = some (.inr (3, [.ref q7, .ref q15, .int 0, .ref q23, .ref q31, .ref q40, .null, .int 0, .int 0, .int 0, .null, .int 0, .null, .int 0, .null, .int 0, .int 0, .null])) := wd_up_self _ _ _
  have f19_q7 : (wd_up w_a18 m (.inr (3, [.ref q7, .ref q15, .int 0, .ref q23, .ref q31, .ref q40, .null, .int 0, .int 0, .int 0, .null, .int 0, .null, .int 0, .null, .int 0, .int 0, .null]))) q7 = some (.inl (cI, 10, .inl (fun _ => 0))) := (wd_up_ne _ _ (Ne.symm ne_m_q7)).trans g18_q7
  have f19_q15 : (wd_up w_a18 m (.inr (3, [.ref q7, .ref q15, .int 0, .ref q23, .ref q31, .ref q40, .null, .int 0, .int 0, .int 0, .null, .int 0, .null, .int 0, .null, .int 0, .int 0, .null]))) q15 = some (.inl (cI, 12, .inl (fun _ => 0))) := (wd_up_ne _ _ (Ne.symm ne_m_q15)).trans g18_q15
  have f19_q23 : (wd_up w_a18 m (.inr (3, [.ref q7, .ref q15, .int 0, .ref q23, .ref q31, .ref q40, .null, .int 0, .int 0, .int 0, .null, .int 0, .null, .int 0, .null, .int 0, .int 0, .null]))) q23 = some (.inl (cI, 24, .inl (fun _ => 0))) := (wd_up_ne _ _ (Ne.symm ne_m_q23)).trans g18_q23
  have f19_q31 : (wd_up w_a18 m (.inr (3, [.ref q7, .ref q15, .int 0, .ref q23, .ref q31, .ref q40, .null, .int 0, .int 0, .int 0, .null, .int 0, .null, .int 0, .null, .int 0, .int 0, .null]))) q31 = some (.inl (cI, 24, .inl (fun _ => 0))) := (wd_up_ne _ _ (Ne.symm ne_m_q31)).trans g18_q31
  have f19_q40 : (wd_up w_a18 m (.inr (3, [.ref q7, .ref q15, .int 0, .ref q23, .ref q31, .ref q40, .null, .int 0, .int 0, .int 0, .null, .int 0, .null, .int 0, .null, .int 0, .int 0, .null]))) q40 = some (.inl (cI, 5760, .inl (fun _ => 0))) := (wd_up_ne _ _ (Ne.symm ne_m_q40)).trans g18_q40
  obtain ⟨w_a20, hW, g20_m, g20_q7, g20_q15, g20_q23, g20_q31, g20_q40⟩ : ∃ w', wd_P D vwCl (wd_A w sg.heap.size) w' H ∧ w' m = some (.inr (3, [.ref q7, .ref q15, .int 0, .ref q23, .ref q31, .ref q40, .null, .int 0, .int 0, .int 0, .null, .int 0, .null, .int 0, .null, .int 0, .int 0, .null])) ∧ w' q7 = some (.inl (cI, 10, .inl (fun _ => 0))) ∧ w' q15 = some (.inl (cI, 12, .inl (fun _ => 0))) ∧ w' q23 = some (.inl (cI, 24, .inl (fun _ => 0))) ∧ w' q31 = some (.inl (cI, 24, .inl (fun _ => 0))) ∧ w' q40 = some (.inl (cI, 5760, .inl (fun _ => 0))) := ⟨_, hW, f19_m, f19_q7, f19_q15, f19_q23, f19_q31, f19_q40⟩
  refine lv_aload_n hx hb dX3_init_45 rfl (lv_at hl 0 rfl) ?_
  refine lv_bipush (v := 60) hx hb dX3_init_46 (by decide) ?_
  refine wd_newi (N' := 60) hx hb (hts (.arrayClass .int) (by decide +kernel)) hK.1 0 rfl hW hS hA (nI_pos (n := 60) (by omega)) (nI_clamp (n := 60) (by omega)) (by omega) (Nat.le_of_ble_eq_true rfl) (Nat.le_of_ble_eq_true rfl) dX3_init_48 (fun q48 H hq48 hW hS => ?_)
  refine W.widen (k := 6) (n := 5890) (by omega) (by omega) ?_
  have ne_m_q48 : m ≠ q48 := wd_fresh hq48 g20_m
  have ne_q7_q48 : q7 ≠ q48 := wd_fresh hq48 g20_q7
  have ne_q15_q48 : q15 ≠ q48 := wd_fresh hq48 g20_q15
  have ne_q23_q48 : q23 ≠ q48 := wd_fresh hq48 g20_q23
  have ne_q31_q48 : q31 ≠ q48 := wd_fresh hq48 g20_q31
  have ne_q40_q48 : q40 ≠ q48 := wd_fresh hq48 g20_q40
  have f21_m : (wd_up w_a20 q48 (.inl (cI, 60, .inl (fun _ => 0)))) m = some (.inr (3, [.ref q7, .ref q15, .int 0, .ref q23, .ref q31, .ref q40, .null, .int 0, .int 0, .int 0, .null, .int 0, .null, .int 0, .null, .int 0, .int 0, .null])) := (wd_up_ne _ _ (wd_fresh hq48 g20_m)).trans g20_m
  have f21_q7 : (wd_up w_a20 q48 (.inl (cI, 60, .inl (fun _ => 0)))) q7 = some (.inl (cI, 10, .inl (fun _ => 0))) := (wd_up_ne _ _ (wd_fresh hq48 g20_q7)).trans g20_q7
  have f21_q15 : (wd_up w_a20 q48 (.inl (cI, 60, .inl (fun _ => 0)))) q15 = some (.inl (cI, 12, .inl (fun _ => 0))) := (wd_up_ne _ _ (wd_fresh hq48 g20_q15)).trans g20_q15
  have f21_q23 : (wd_up w_a20 q48 (.inl (cI, 60, .inl (fun _ => 0)))) q23 = some (.inl (cI, 24, .inl (fun _ => 0))) := (wd_up_ne _ _ (wd_fresh hq48 g20_q23)).trans g20_q23
  have f21_q31 : (wd_up w_a20 q48 (.inl (cI, 60, .inl (fun _ => 0)))) q31 = some (.inl (cI, 24, .inl (fun _ => 0))) := (wd_up_ne _ _ (wd_fresh hq48 g20_q31)).trans g20_q31
  have f21_q40 : (wd_up w_a20 q48 (.inl (cI, 60, .inl (fun _ => 0)))) q40 = some (.inl (cI, 5760, .inl (fun _ => 0))) := (wd_up_ne _ _ (wd_fresh hq48 g20_q40)).trans g20_q40
  have f21_q48 : (wd_up w_a20 q48 (.inl (cI, 60, .inl (fun _ => 0)))) q48 = some (.inl (cI, 60, .inl (fun _ => 0))) := wd_up_self _ _ _
  obtain ⟨w_a22, hW, g22_m, g22_q7, g22_q15, g22_q23, g22_q31, g22_q40, g22_q48⟩ : ∃ w', wd_P D vwCl (wd_A w sg.heap.size) w' H ∧ w' m = some (.inr (3, [.ref q7, .ref q15, .int 0, .ref q23, .ref q31, .ref q40, .null, .int 0, .int 0, .int 0, .null, .int 0, .null, .int 0, .null, .int 0, .int 0, .null])) ∧ w' q7 = some (.inl (cI, 10, .inl (fun _ => 0))) ∧ w' q15 = some (.inl (cI, 12, .inl (fun _ => 0))) ∧ w' q23 = some (.inl (cI, 24, .inl (fun _ => 0))) ∧ w' q31 = some (.inl (cI, 24, .inl (fun _ => 0))) ∧ w' q40 = some (.inl (cI, 5760, .inl (fun _ => 0))) ∧ w' q48 = some (.inl (cI, 60, .inl (fun _ => 0))) := ⟨_, hW, f21_m, f21_q7, f21_q15, f21_q23, f21_q31, f21_q40, f21_q48⟩
  refine wd_putF (ci := 3) (v := .ref q48) (ty := (.array .int)) (C := RX3) (T := TX3) (N := 18) hx hb hts (by decide +kernel) tyX3 tyX3_ok nmX3 hown hK.1 hW hS g22_m rfl 6 (by decide) (hts (.fieldLink RX3 25 "CharRowsModel" "draft" "[I") (by decide +kernel)) (fun _ h9 => h9) rfl hnm rfl (by decide +kernel) rfl rfl (Nat.le_of_ble_eq_true rfl) dX3_init_50 (fun H locs hW hS => ?_)
  have f23_m : (wd_up w_a22 m (.inr (3, [.ref q7, .ref q15, .int 0, .ref q23, .ref q31, .ref q40, .ref q48, .int 0, .int 0, .int 0, .null, .int 0, .null, .int 0, .null, .int 0, .int 0, .null]))) m = some (.inr (3, [.ref q7, .ref q15, .int 0, .ref q23, .ref q31, .ref q40, .ref q48, .int 0, .int 0, .int 0, .null, .int 0, .null, .int 0, .null, .int 0, .int 0, .null])) := wd_up_self _ _ _
  have f23_q7 : (wd_up w_a22 m (.inr (3, [.ref q7, .ref q15, .int 0, .ref q23, .ref q31, .ref q40, .ref q48, .int 0, .int 0, .int 0, .null, .int 0, .null, .int 0, .null, .int 0, .int 0, .null]))) q7 = some (.inl (cI, 10, .inl (fun _ => 0))) := (wd_up_ne _ _ (Ne.symm ne_m_q7)).trans g22_q7
  have f23_q15 : (wd_up w_a22 m (.inr (3, [.ref q7, .ref q15, .int 0, .ref q23, .ref q31, .ref q40, .ref q48, .int 0, .int 0, .int 0, .null, .int 0, .null, .int 0, .null, .int 0, .int 0, .null]))) q15 = some (.inl (cI, 12, .inl (fun _ => 0))) := (wd_up_ne _ _ (Ne.symm ne_m_q15)).trans g22_q15
  have f23_q23 : (wd_up w_a22 m (.inr (3, [.ref q7, .ref q15, .int 0, .ref q23, .ref q31, .ref q40, .ref q48, .int 0, .int 0, .int 0, .null, .int 0, .null, .int 0, .null, .int 0, .int 0, .null]))) q23 = some (.inl (cI, 24, .inl (fun _ => 0))) := (wd_up_ne _ _ (Ne.symm ne_m_q23)).trans g22_q23
  have f23_q31 : (wd_up w_a22 m (.inr (3, [.ref q7, .ref q15, .int 0, .ref q23, .ref q31, .ref q40, .ref q48, .int 0, .int 0, .int 0, .null, .int 0, .null, .int 0, .null, .int 0, .int 0, .null]))) q31 = some (.inl (cI, 24, .inl (fun _ => 0))) := (wd_up_ne _ _ (Ne.symm ne_m_q31)).trans g22_q31
  have f23_q40 : (wd_up w_a22 m (.inr (3, [.ref q7, .ref q15, .int 0, .ref q23, .ref q31, .ref q40, .ref q48, .int 0, .int 0, .int 0, .null, .int 0, .null, .int 0, .null, .int 0, .int 0, .null]))) q40 = some (.inl (cI, 5760, .inl (fun _ => 0))) := (wd_up_ne _ _ (Ne.symm ne_m_q40)).trans g22_q40
  have f23_q48 : (wd_up w_a22 m (.inr (3, [.ref q7, .ref q15, .int 0, .ref q23, .ref q31, .ref q40, .ref q48, .int 0, .int 0, .int 0, .null, .int 0, .null, .int 0, .null, .int 0, .int 0, .null]))) q48 = some (.inl (cI, 60, .inl (fun _ => 0))) := (wd_up_ne _ _ (Ne.symm ne_m_q48)).trans g22_q48
  obtain ⟨w_a24, hW, g24_m, g24_q7, g24_q15, g24_q23, g24_q31, g24_q40, g24_q48⟩ : ∃ w', wd_P D vwCl (wd_A w sg.heap.size) w' H ∧ w' m = some (.inr (3, [.ref q7, .ref q15, .int 0, .ref q23, .ref q31, .ref q40, .ref q48, .int 0, .int 0, .int 0, .null, .int 0, .null, .int 0, .null, .int 0, .int 0, .null])) ∧ w' q7 = some (.inl (cI, 10, .inl (fun _ => 0))) ∧ w' q15 = some (.inl (cI, 12, .inl (fun _ => 0))) ∧ w' q23 = some (.inl (cI, 24, .inl (fun _ => 0))) ∧ w' q31 = some (.inl (cI, 24, .inl (fun _ => 0))) ∧ w' q40 = some (.inl (cI, 5760, .inl (fun _ => 0))) ∧ w' q48 = some (.inl (cI, 60, .inl (fun _ => 0))) := ⟨_, hW, f23_m, f23_q7, f23_q15, f23_q23, f23_q31, f23_q40, f23_q48⟩
  refine lv_aload_n hx hb dX3_init_53 rfl (lv_at hl 0 rfl) ?_
  refine lv_iconst (v := (-1)) hx hb dX3_init_54 (by decide) ?_
  refine wd_put (ci := 3) (v := .int (-1)) (ty := .int) (C := RX3) (T := TX3) (N := 18) hx hb hts (by decide +kernel) tyX3 tyX3_ok nmX3 hown hK.1 hW hS g24_m rfl 9 (by decide) (hts (.fieldLink RX3 28 "CharRowsModel" "broken" "I") (by decide +kernel)) (fun _ h9 => h9) rfl (by decide +kernel) rfl rfl (Nat.le_of_ble_eq_true rfl) dX3_init_55 (fun H locs hW hS => ?_)
  have f25_m : (wd_up w_a24 m (.inr (3, [.ref q7, .ref q15, .int 0, .ref q23, .ref q31, .ref q40, .ref q48, .int 0, .int 0, .int (-1), .null, .int 0, .null, .int 0, .null, .int 0, .int 0, .null]))) m = some (.inr (3, [.ref q7, .ref q15, .int 0, .ref q23, .ref q31, .ref q40, .ref q48, .int 0, .int 0, .int (-1), .null, .int 0, .null, .int 0, .null, .int 0, .int 0, .null])) := wd_up_self _ _ _
  have f25_q7 : (wd_up w_a24 m (.inr (3, [.ref q7, .ref q15, .int 0, .ref q23, .ref q31, .ref q40, .ref q48, .int 0, .int 0, .int (-1), .null, .int 0, .null, .int 0, .null, .int 0, .int 0, .null]))) q7 = some (.inl (cI, 10, .inl (fun _ => 0))) := (wd_up_ne _ _ (Ne.symm ne_m_q7)).trans g24_q7
  have f25_q15 : (wd_up w_a24 m (.inr (3, [.ref q7, .ref q15, .int 0, .ref q23, .ref q31, .ref q40, .ref q48, .int 0, .int 0, .int (-1), .null, .int 0, .null, .int 0, .null, .int 0, .int 0, .null]))) q15 = some (.inl (cI, 12, .inl (fun _ => 0))) := (wd_up_ne _ _ (Ne.symm ne_m_q15)).trans g24_q15
  have f25_q23 : (wd_up w_a24 m (.inr (3, [.ref q7, .ref q15, .int 0, .ref q23, .ref q31, .ref q40, .ref q48, .int 0, .int 0, .int (-1), .null, .int 0, .null, .int 0, .null, .int 0, .int 0, .null]))) q23 = some (.inl (cI, 24, .inl (fun _ => 0))) := (wd_up_ne _ _ (Ne.symm ne_m_q23)).trans g24_q23
  have f25_q31 : (wd_up w_a24 m (.inr (3, [.ref q7, .ref q15, .int 0, .ref q23, .ref q31, .ref q40, .ref q48, .int 0, .int 0, .int (-1), .null, .int 0, .null, .int 0, .null, .int 0, .int 0, .null]))) q31 = some (.inl (cI, 24, .inl (fun _ => 0))) := (wd_up_ne _ _ (Ne.symm ne_m_q31)).trans g24_q31
  have f25_q40 : (wd_up w_a24 m (.inr (3, [.ref q7, .ref q15, .int 0, .ref q23, .ref q31, .ref q40, .ref q48, .int 0, .int 0, .int (-1), .null, .int 0, .null, .int 0, .null, .int 0, .int 0, .null]))) q40 = some (.inl (cI, 5760, .inl (fun _ => 0))) := (wd_up_ne _ _ (Ne.symm ne_m_q40)).trans g24_q40
  have f25_q48 : (wd_up w_a24 m (.inr (3, [.ref q7, .ref q15, .int 0, .ref q23, .ref q31, .ref q40, .ref q48, .int 0, .int 0, .int (-1), .null, .int 0, .null, .int 0, .null, .int 0, .int 0, .null]))) q48 = some (.inl (cI, 60, .inl (fun _ => 0))) := (wd_up_ne _ _ (Ne.symm ne_m_q48)).trans g24_q48
  obtain ⟨w_a26, hW, g26_m, g26_q7, g26_q15, g26_q23, g26_q31, g26_q40, g26_q48⟩ : ∃ w', wd_P D vwCl (wd_A w sg.heap.size) w' H ∧ w' m = some (.inr (3, [.ref q7, .ref q15, .int 0, .ref q23, .ref q31, .ref q40, .ref q48, .int 0, .int 0, .int (-1), .null, .int 0, .null, .int 0, .null, .int 0, .int 0, .null])) ∧ w' q7 = some (.inl (cI, 10, .inl (fun _ => 0))) ∧ w' q15 = some (.inl (cI, 12, .inl (fun _ => 0))) ∧ w' q23 = some (.inl (cI, 24, .inl (fun _ => 0))) ∧ w' q31 = some (.inl (cI, 24, .inl (fun _ => 0))) ∧ w' q40 = some (.inl (cI, 5760, .inl (fun _ => 0))) ∧ w' q48 = some (.inl (cI, 60, .inl (fun _ => 0))) := ⟨_, hW, f25_m, f25_q7, f25_q15, f25_q23, f25_q31, f25_q40, f25_q48⟩
  refine lv_aload_n hx hb dX3_init_58 rfl (lv_at hl 0 rfl) ?_
  refine lv_sipush (v := 240) hx hb dX3_init_59 (by decide) ?_
  refine wd_newi (N' := 240) hx hb (hts (.arrayClass .int) (by decide +kernel)) hK.1 0 rfl hW hS hA (nI_pos (n := 240) (by omega)) (nI_clamp (n := 240) (by omega)) (by omega) (Nat.le_of_ble_eq_true rfl) (Nat.le_of_ble_eq_true rfl) dX3_init_62 (fun q62 H hq62 hW hS => ?_)
  refine W.widen (k := 7) (n := 6130) (by omega) (by omega) ?_
  have ne_m_q62 : m ≠ q62 := wd_fresh hq62 g26_m
  have ne_q7_q62 : q7 ≠ q62 := wd_fresh hq62 g26_q7
  have ne_q15_q62 : q15 ≠ q62 := wd_fresh hq62 g26_q15
  have ne_q23_q62 : q23 ≠ q62 := wd_fresh hq62 g26_q23
  have ne_q31_q62 : q31 ≠ q62 := wd_fresh hq62 g26_q31
  have ne_q40_q62 : q40 ≠ q62 := wd_fresh hq62 g26_q40
  have ne_q48_q62 : q48 ≠ q62 := wd_fresh hq62 g26_q48
  have f27_m : (wd_up w_a26 q62 (.inl (cI, 240, .inl (fun _ => 0)))) m = some (.inr (3, [.ref q7, .ref q15, .int 0, .ref q23, .ref q31, .ref q40, .ref q48, .int 0, .int 0, .int (-1), .null, .int 0, .null, .int 0, .null, .int 0, .int 0, .null])) := (wd_up_ne _ _ (wd_fresh hq62 g26_m)).trans g26_m
  have f27_q7 : (wd_up w_a26 q62 (.inl (cI, 240, .inl (fun _ => 0)))) q7 = some (.inl (cI, 10, .inl (fun _ => 0))) := (wd_up_ne _ _ (wd_fresh hq62 g26_q7)).trans g26_q7
  have f27_q15 : (wd_up w_a26 q62 (.inl (cI, 240, .inl (fun _ => 0)))) q15 = some (.inl (cI, 12, .inl (fun _ => 0))) := (wd_up_ne _ _ (wd_fresh hq62 g26_q15)).trans g26_q15
  have f27_q23 : (wd_up w_a26 q62 (.inl (cI, 240, .inl (fun _ => 0)))) q23 = some (.inl (cI, 24, .inl (fun _ => 0))) := (wd_up_ne _ _ (wd_fresh hq62 g26_q23)).trans g26_q23
  have f27_q31 : (wd_up w_a26 q62 (.inl (cI, 240, .inl (fun _ => 0)))) q31 = some (.inl (cI, 24, .inl (fun _ => 0))) := (wd_up_ne _ _ (wd_fresh hq62 g26_q31)).trans g26_q31
  have f27_q40 : (wd_up w_a26 q62 (.inl (cI, 240, .inl (fun _ => 0)))) q40 = some (.inl (cI, 5760, .inl (fun _ => 0))) := (wd_up_ne _ _ (wd_fresh hq62 g26_q40)).trans g26_q40
  have f27_q48 : (wd_up w_a26 q62 (.inl (cI, 240, .inl (fun _ => 0)))) q48 = some (.inl (cI, 60, .inl (fun _ => 0))) := (wd_up_ne _ _ (wd_fresh hq62 g26_q48)).trans g26_q48
  have f27_q62 : (wd_up w_a26 q62 (.inl (cI, 240, .inl (fun _ => 0)))) q62 = some (.inl (cI, 240, .inl (fun _ => 0))) := wd_up_self _ _ _
  obtain ⟨w_a28, hW, g28_m, g28_q7, g28_q15, g28_q23, g28_q31, g28_q40, g28_q48, g28_q62⟩ : ∃ w', wd_P D vwCl (wd_A w sg.heap.size) w' H ∧ w' m = some (.inr (3, [.ref q7, .ref q15, .int 0, .ref q23, .ref q31, .ref q40, .ref q48, .int 0, .int 0, .int (-1), .null, .int 0, .null, .int 0, .null, .int 0, .int 0, .null])) ∧ w' q7 = some (.inl (cI, 10, .inl (fun _ => 0))) ∧ w' q15 = some (.inl (cI, 12, .inl (fun _ => 0))) ∧ w' q23 = some (.inl (cI, 24, .inl (fun _ => 0))) ∧ w' q31 = some (.inl (cI, 24, .inl (fun _ => 0))) ∧ w' q40 = some (.inl (cI, 5760, .inl (fun _ => 0))) ∧ w' q48 = some (.inl (cI, 60, .inl (fun _ => 0))) ∧ w' q62 = some (.inl (cI, 240, .inl (fun _ => 0))) := ⟨_, hW, f27_m, f27_q7, f27_q15, f27_q23, f27_q31, f27_q40, f27_q48, f27_q62⟩
  refine wd_putF (ci := 3) (v := .ref q62) (ty := (.array .int)) (C := RX3) (T := TX3) (N := 18) hx hb hts (by decide +kernel) tyX3 tyX3_ok nmX3 hown hK.1 hW hS g28_m rfl 10 (by decide) (hts (.fieldLink RX3 32 "CharRowsModel" "points" "[I") (by decide +kernel)) (fun _ h9 => h9) rfl hnm rfl (by decide +kernel) rfl rfl (Nat.le_of_ble_eq_true rfl) dX3_init_64 (fun H locs hW hS => ?_)
  have f29_m : (wd_up w_a28 m (.inr (3, [.ref q7, .ref q15, .int 0, .ref q23, .ref q31, .ref q40, .ref q48, .int 0, .int 0, .int (-1), .ref q62, .int 0, .null, .int 0, .null, .int 0, .int 0, .null]))) m = some (.inr (3, [.ref q7, .ref q15, .int 0, .ref q23, .ref q31, .ref q40, .ref q48, .int 0, .int 0, .int (-1), .ref q62, .int 0, .null, .int 0, .null, .int 0, .int 0, .null])) := wd_up_self _ _ _
  have f29_q7 : (wd_up w_a28 m (.inr (3, [.ref q7, .ref q15, .int 0, .ref q23, .ref q31, .ref q40, .ref q48, .int 0, .int 0, .int (-1), .ref q62, .int 0, .null, .int 0, .null, .int 0, .int 0, .null]))) q7 = some (.inl (cI, 10, .inl (fun _ => 0))) := (wd_up_ne _ _ (Ne.symm ne_m_q7)).trans g28_q7
  have f29_q15 : (wd_up w_a28 m (.inr (3, [.ref q7, .ref q15, .int 0, .ref q23, .ref q31, .ref q40, .ref q48, .int 0, .int 0, .int (-1), .ref q62, .int 0, .null, .int 0, .null, .int 0, .int 0, .null]))) q15 = some (.inl (cI, 12, .inl (fun _ => 0))) := (wd_up_ne _ _ (Ne.symm ne_m_q15)).trans g28_q15
  have f29_q23 : (wd_up w_a28 m (.inr (3, [.ref q7, .ref q15, .int 0, .ref q23, .ref q31, .ref q40, .ref q48, .int 0, .int 0, .int (-1), .ref q62, .int 0, .null, .int 0, .null, .int 0, .int 0, .null]))) q23 = some (.inl (cI, 24, .inl (fun _ => 0))) := (wd_up_ne _ _ (Ne.symm ne_m_q23)).trans g28_q23
  have f29_q31 : (wd_up w_a28 m (.inr (3, [.ref q7, .ref q15, .int 0, .ref q23, .ref q31, .ref q40, .ref q48, .int 0, .int 0, .int (-1), .ref q62, .int 0, .null, .int 0, .null, .int 0, .int 0, .null]))) q31 = some (.inl (cI, 24, .inl (fun _ => 0))) := (wd_up_ne _ _ (Ne.symm ne_m_q31)).trans g28_q31
  have f29_q40 : (wd_up w_a28 m (.inr (3, [.ref q7, .ref q15, .int 0, .ref q23, .ref q31, .ref q40, .ref q48, .int 0, .int 0, .int (-1), .ref q62, .int 0, .null, .int 0, .null, .int 0, .int 0, .null]))) q40 = some (.inl (cI, 5760, .inl (fun _ => 0))) := (wd_up_ne _ _ (Ne.symm ne_m_q40)).trans g28_q40
  have f29_q48 : (wd_up w_a28 m (.inr (3, [.ref q7, .ref q15, .int 0, .ref q23, .ref q31, .ref q40, .ref q48, .int 0, .int 0, .int (-1), .ref q62, .int 0, .null, .int 0, .null, .int 0, .int 0, .null]))) q48 = some (.inl (cI, 60, .inl (fun _ => 0))) := (wd_up_ne _ _ (Ne.symm ne_m_q48)).trans g28_q48
  have f29_q62 : (wd_up w_a28 m (.inr (3, [.ref q7, .ref q15, .int 0, .ref q23, .ref q31, .ref q40, .ref q48, .int 0, .int 0, .int (-1), .ref q62, .int 0, .null, .int 0, .null, .int 0, .int 0, .null]))) q62 = some (.inl (cI, 240, .inl (fun _ => 0))) := (wd_up_ne _ _ (Ne.symm ne_m_q62)).trans g28_q62
  obtain ⟨w_a30, hW, g30_m, g30_q7, g30_q15, g30_q23, g30_q31, g30_q40, g30_q48, g30_q62⟩ : ∃ w', wd_P D vwCl (wd_A w sg.heap.size) w' H ∧ w' m = some (.inr (3, [.ref q7, .ref q15, .int 0, .ref q23, .ref q31, .ref q40, .ref q48, .int 0, .int 0, .int (-1), .ref q62, .int 0, .null, .int 0, .null, .int 0, .int 0, .null])) ∧ w' q7 = some (.inl (cI, 10, .inl (fun _ => 0))) ∧ w' q15 = some (.inl (cI, 12, .inl (fun _ => 0))) ∧ w' q23 = some (.inl (cI, 24, .inl (fun _ => 0))) ∧ w' q31 = some (.inl (cI, 24, .inl (fun _ => 0))) ∧ w' q40 = some (.inl (cI, 5760, .inl (fun _ => 0))) ∧ w' q48 = some (.inl (cI, 60, .inl (fun _ => 0))) ∧ w' q62 = some (.inl (cI, 240, .inl (fun _ => 0))) := ⟨_, hW, f29_m, f29_q7, f29_q15, f29_q23, f29_q31, f29_q40, f29_q48, f29_q62⟩
  refine lv_aload_n hx hb dX3_init_67 rfl (lv_at hl 0 rfl) ?_
  refine lv_sipush (v := 480) hx hb dX3_init_68 (by decide) ?_
  refine wd_newi (N' := 480) hx hb (hts (.arrayClass .int) (by decide +kernel)) hK.1 0 rfl hW hS hA (nI_pos (n := 480) (by omega)) (nI_clamp (n := 480) (by omega)) (by omega) (Nat.le_of_ble_eq_true rfl) (Nat.le_of_ble_eq_true rfl) dX3_init_71 (fun q71 H hq71 hW hS => ?_)
  refine W.widen (k := 8) (n := 6610) (by omega) (by omega) ?_
  have ne_m_q71 : m ≠ q71 := wd_fresh hq71 g30_m
  have ne_q7_q71 : q7 ≠ q71 := wd_fresh hq71 g30_q7
  have ne_q15_q71 : q15 ≠ q71 := wd_fresh hq71 g30_q15
  have ne_q23_q71 : q23 ≠ q71 := wd_fresh hq71 g30_q23
  have ne_q31_q71 : q31 ≠ q71 := wd_fresh hq71 g30_q31
  have ne_q40_q71 : q40 ≠ q71 := wd_fresh hq71 g30_q40
  have ne_q48_q71 : q48 ≠ q71 := wd_fresh hq71 g30_q48
  have ne_q62_q71 : q62 ≠ q71 := wd_fresh hq71 g30_q62
  have f31_m : (wd_up w_a30 q71 (.inl (cI, 480, .inl (fun _ => 0)))) m = some (.inr (3, [.ref q7, .ref q15, .int 0, .ref q23, .ref q31, .ref q40, .ref q48, .int 0, .int 0, .int (-1), .ref q62, .int 0, .null, .int 0, .null, .int 0, .int 0, .null])) := (wd_up_ne _ _ (wd_fresh hq71 g30_m)).trans g30_m
  have f31_q7 : (wd_up w_a30 q71 (.inl (cI, 480, .inl (fun _ => 0)))) q7 = some (.inl (cI, 10, .inl (fun _ => 0))) := (wd_up_ne _ _ (wd_fresh hq71 g30_q7)).trans g30_q7
  have f31_q15 : (wd_up w_a30 q71 (.inl (cI, 480, .inl (fun _ => 0)))) q15 = some (.inl (cI, 12, .inl (fun _ => 0))) := (wd_up_ne _ _ (wd_fresh hq71 g30_q15)).trans g30_q15
  have f31_q23 : (wd_up w_a30 q71 (.inl (cI, 480, .inl (fun _ => 0)))) q23 = some (.inl (cI, 24, .inl (fun _ => 0))) := (wd_up_ne _ _ (wd_fresh hq71 g30_q23)).trans g30_q23
  have f31_q31 : (wd_up w_a30 q71 (.inl (cI, 480, .inl (fun _ => 0)))) q31 = some (.inl (cI, 24, .inl (fun _ => 0))) := (wd_up_ne _ _ (wd_fresh hq71 g30_q31)).trans g30_q31
  have f31_q40 : (wd_up w_a30 q71 (.inl (cI, 480, .inl (fun _ => 0)))) q40 = some (.inl (cI, 5760, .inl (fun _ => 0))) := (wd_up_ne _ _ (wd_fresh hq71 g30_q40)).trans g30_q40
  have f31_q48 : (wd_up w_a30 q71 (.inl (cI, 480, .inl (fun _ => 0)))) q48 = some (.inl (cI, 60, .inl (fun _ => 0))) := (wd_up_ne _ _ (wd_fresh hq71 g30_q48)).trans g30_q48
  have f31_q62 : (wd_up w_a30 q71 (.inl (cI, 480, .inl (fun _ => 0)))) q62 = some (.inl (cI, 240, .inl (fun _ => 0))) := (wd_up_ne _ _ (wd_fresh hq71 g30_q62)).trans g30_q62
  have f31_q71 : (wd_up w_a30 q71 (.inl (cI, 480, .inl (fun _ => 0)))) q71 = some (.inl (cI, 480, .inl (fun _ => 0))) := wd_up_self _ _ _
  obtain ⟨w_a32, hW, g32_m, g32_q7, g32_q15, g32_q23, g32_q31, g32_q40, g32_q48, g32_q62, g32_q71⟩ : ∃ w', wd_P D vwCl (wd_A w sg.heap.size) w' H ∧ w' m = some (.inr (3, [.ref q7, .ref q15, .int 0, .ref q23, .ref q31, .ref q40, .ref q48, .int 0, .int 0, .int (-1), .ref q62, .int 0, .null, .int 0, .null, .int 0, .int 0, .null])) ∧ w' q7 = some (.inl (cI, 10, .inl (fun _ => 0))) ∧ w' q15 = some (.inl (cI, 12, .inl (fun _ => 0))) ∧ w' q23 = some (.inl (cI, 24, .inl (fun _ => 0))) ∧ w' q31 = some (.inl (cI, 24, .inl (fun _ => 0))) ∧ w' q40 = some (.inl (cI, 5760, .inl (fun _ => 0))) ∧ w' q48 = some (.inl (cI, 60, .inl (fun _ => 0))) ∧ w' q62 = some (.inl (cI, 240, .inl (fun _ => 0))) ∧ w' q71 = some (.inl (cI, 480, .inl (fun _ => 0))) := ⟨_, hW, f31_m, f31_q7, f31_q15, f31_q23, f31_q31, f31_q40, f31_q48, f31_q62, f31_q71⟩
  refine wd_putF (ci := 3) (v := .ref q71) (ty := (.array .int)) (C := RX3) (T := TX3) (N := 18) hx hb hts (by decide +kernel) tyX3 tyX3_ok nmX3 hown hK.1 hW hS g32_m rfl 12 (by decide) (hts (.fieldLink RX3 35 "CharRowsModel" "units" "[I") (by decide +kernel)) (fun _ h9 => h9) rfl hnm rfl (by decide +kernel) rfl rfl (Nat.le_of_ble_eq_true rfl) dX3_init_73 (fun H locs hW hS => ?_)
  have f33_m : (wd_up w_a32 m (.inr (3, [.ref q7, .ref q15, .int 0, .ref q23, .ref q31, .ref q40, .ref q48, .int 0, .int 0, .int (-1), .ref q62, .int 0, .ref q71, .int 0, .null, .int 0, .int 0, .null]))) m = some (.inr (3, [.ref q7, .ref q15, .int 0, .ref q23, .ref q31, .ref q40, .ref q48, .int 0, .int 0, .int (-1), .ref q62, .int 0, .ref q71, .int 0, .null, .int 0, .int 0, .null])) := wd_up_self _ _ _
  have f33_q7 : (wd_up w_a32 m (.inr (3, [.ref q7, .ref q15, .int 0, .ref q23, .ref q31, .ref q40, .ref q48, .int 0, .int 0, .int (-1), .ref q62, .int 0, .ref q71, .int 0, .null, .int 0, .int 0, .null]))) q7 = some (.inl (cI, 10, .inl (fun _ => 0))) := (wd_up_ne _ _ (Ne.symm ne_m_q7)).trans g32_q7
  have f33_q15 : (wd_up w_a32 m (.inr (3, [.ref q7, .ref q15, .int 0, .ref q23, .ref q31, .ref q40, .ref q48, .int 0, .int 0, .int (-1), .ref q62, .int 0, .ref q71, .int 0, .null, .int 0, .int 0, .null]))) q15 = some (.inl (cI, 12, .inl (fun _ => 0))) := (wd_up_ne _ _ (Ne.symm ne_m_q15)).trans g32_q15
  have f33_q23 : (wd_up w_a32 m (.inr (3, [.ref q7, .ref q15, .int 0, .ref q23, .ref q31, .ref q40, .ref q48, .int 0, .int 0, .int (-1), .ref q62, .int 0, .ref q71, .int 0, .null, .int 0, .int 0, .null]))) q23 = some (.inl (cI, 24, .inl (fun _ => 0))) := (wd_up_ne _ _ (Ne.symm ne_m_q23)).trans g32_q23
  have f33_q31 : (wd_up w_a32 m (.inr (3, [.ref q7, .ref q15, .int 0, .ref q23, .ref q31, .ref q40, .ref q48, .int 0, .int 0, .int (-1), .ref q62, .int 0, .ref q71, .int 0, .null, .int 0, .int 0, .null]))) q31 = some (.inl (cI, 24, .inl (fun _ => 0))) := (wd_up_ne _ _ (Ne.symm ne_m_q31)).trans g32_q31
  have f33_q40 : (wd_up w_a32 m (.inr (3, [.ref q7, .ref q15, .int 0, .ref q23, .ref q31, .ref q40, .ref q48, .int 0, .int 0, .int (-1), .ref q62, .int 0, .ref q71, .int 0, .null, .int 0, .int 0, .null]))) q40 = some (.inl (cI, 5760, .inl (fun _ => 0))) := (wd_up_ne _ _ (Ne.symm ne_m_q40)).trans g32_q40
  have f33_q48 : (wd_up w_a32 m (.inr (3, [.ref q7, .ref q15, .int 0, .ref q23, .ref q31, .ref q40, .ref q48, .int 0, .int 0, .int (-1), .ref q62, .int 0, .ref q71, .int 0, .null, .int 0, .int 0, .null]))) q48 = some (.inl (cI, 60, .inl (fun _ => 0))) := (wd_up_ne _ _ (Ne.symm ne_m_q48)).trans g32_q48
  have f33_q62 : (wd_up w_a32 m (.inr (3, [.ref q7, .ref q15, .int 0, .ref q23, .ref q31, .ref q40, .ref q48, .int 0, .int 0, .int (-1), .ref q62, .int 0, .ref q71, .int 0, .null, .int 0, .int 0, .null]))) q62 = some (.inl (cI, 240, .inl (fun _ => 0))) := (wd_up_ne _ _ (Ne.symm ne_m_q62)).trans g32_q62
  have f33_q71 : (wd_up w_a32 m (.inr (3, [.ref q7, .ref q15, .int 0, .ref q23, .ref q31, .ref q40, .ref q48, .int 0, .int 0, .int (-1), .ref q62, .int 0, .ref q71, .int 0, .null, .int 0, .int 0, .null]))) q71 = some (.inl (cI, 480, .inl (fun _ => 0))) := (wd_up_ne _ _ (Ne.symm ne_m_q71)).trans g32_q71
  obtain ⟨w_a34, hW, g34_m, g34_q7, g34_q15, g34_q23, g34_q31, g34_q40, g34_q48, g34_q62, g34_q71⟩ : ∃ w', wd_P D vwCl (wd_A w sg.heap.size) w' H ∧ w' m = some (.inr (3, [.ref q7, .ref q15, .int 0, .ref q23, .ref q31, .ref q40, .ref q48, .int 0, .int 0, .int (-1), .ref q62, .int 0, .ref q71, .int 0, .null, .int 0, .int 0, .null])) ∧ w' q7 = some (.inl (cI, 10, .inl (fun _ => 0))) ∧ w' q15 = some (.inl (cI, 12, .inl (fun _ => 0))) ∧ w' q23 = some (.inl (cI, 24, .inl (fun _ => 0))) ∧ w' q31 = some (.inl (cI, 24, .inl (fun _ => 0))) ∧ w' q40 = some (.inl (cI, 5760, .inl (fun _ => 0))) ∧ w' q48 = some (.inl (cI, 60, .inl (fun _ => 0))) ∧ w' q62 = some (.inl (cI, 240, .inl (fun _ => 0))) ∧ w' q71 = some (.inl (cI, 480, .inl (fun _ => 0))) := ⟨_, hW, f33_m, f33_q7, f33_q15, f33_q23, f33_q31, f33_q40, f33_q48, f33_q62, f33_q71⟩
  refine lv_aload_n hx hb dX3_init_76 rfl (lv_at hl 0 rfl) ?_
  refine lv_sipush (v := 480) hx hb dX3_init_77 (by decide) ?_
  refine wd_newi (N' := 480) hx hb (hts (.arrayClass .int) (by decide +kernel)) hK.1 0 rfl hW hS hA (nI_pos (n := 480) (by omega)) (nI_clamp (n := 480) (by omega)) (by omega) (Nat.le_of_ble_eq_true rfl) (Nat.le_of_ble_eq_true rfl) dX3_init_80 (fun q80 H hq80 hW hS => ?_)
  refine W.widen (k := 9) (n := 7090) (by omega) (by omega) ?_
  have ne_m_q80 : m ≠ q80 := wd_fresh hq80 g34_m
  have ne_q7_q80 : q7 ≠ q80 := wd_fresh hq80 g34_q7
  have ne_q15_q80 : q15 ≠ q80 := wd_fresh hq80 g34_q15
  have ne_q23_q80 : q23 ≠ q80 := wd_fresh hq80 g34_q23
  have ne_q31_q80 : q31 ≠ q80 := wd_fresh hq80 g34_q31
  have ne_q40_q80 : q40 ≠ q80 := wd_fresh hq80 g34_q40
  have ne_q48_q80 : q48 ≠ q80 := wd_fresh hq80 g34_q48
  have ne_q62_q80 : q62 ≠ q80 := wd_fresh hq80 g34_q62
  have ne_q71_q80 : q71 ≠ q80 := wd_fresh hq80 g34_q71
  have f35_m : (wd_up w_a34 q80 (.inl (cI, 480, .inl (fun _ => 0)))) m = some (.inr (3, [.ref q7, .ref q15, .int 0, .ref q23, .ref q31, .ref q40, .ref q48, .int 0, .int 0, .int (-1), .ref q62, .int 0, .ref q71, .int 0, .null, .int 0, .int 0, .null])) := (wd_up_ne _ _ (wd_fresh hq80 g34_m)).trans g34_m
  have f35_q7 : (wd_up w_a34 q80 (.inl (cI, 480, .inl (fun _ => 0)))) q7 = some (.inl (cI, 10, .inl (fun _ => 0))) := (wd_up_ne _ _ (wd_fresh hq80 g34_q7)).trans g34_q7
  have f35_q15 : (wd_up w_a34 q80 (.inl (cI, 480, .inl (fun _ => 0)))) q15 = some (.inl (cI, 12, .inl (fun _ => 0))) := (wd_up_ne _ _ (wd_fresh hq80 g34_q15)).trans g34_q15
  have f35_q23 : (wd_up w_a34 q80 (.inl (cI, 480, .inl (fun _ => 0)))) q23 = some (.inl (cI, 24, .inl (fun _ => 0))) := (wd_up_ne _ _ (wd_fresh hq80 g34_q23)).trans g34_q23
  have f35_q31 : (wd_up w_a34 q80 (.inl (cI, 480, .inl (fun _ => 0)))) q31 = some (.inl (cI, 24, .inl (fun _ => 0))) := (wd_up_ne _ _ (wd_fresh hq80 g34_q31)).trans g34_q31
  have f35_q40 : (wd_up w_a34 q80 (.inl (cI, 480, .inl (fun _ => 0)))) q40 = some (.inl (cI, 5760, .inl (fun _ => 0))) := (wd_up_ne _ _ (wd_fresh hq80 g34_q40)).trans g34_q40
  have f35_q48 : (wd_up w_a34 q80 (.inl (cI, 480, .inl (fun _ => 0)))) q48 = some (.inl (cI, 60, .inl (fun _ => 0))) := (wd_up_ne _ _ (wd_fresh hq80 g34_q48)).trans g34_q48
  have f35_q62 : (wd_up w_a34 q80 (.inl (cI, 480, .inl (fun _ => 0)))) q62 = some (.inl (cI, 240, .inl (fun _ => 0))) := (wd_up_ne _ _ (wd_fresh hq80 g34_q62)).trans g34_q62
  have f35_q71 : (wd_up w_a34 q80 (.inl (cI, 480, .inl (fun _ => 0)))) q71 = some (.inl (cI, 480, .inl (fun _ => 0))) := (wd_up_ne _ _ (wd_fresh hq80 g34_q71)).trans g34_q71
  have f35_q80 : (wd_up w_a34 q80 (.inl (cI, 480, .inl (fun _ => 0)))) q80 = some (.inl (cI, 480, .inl (fun _ => 0))) := wd_up_self _ _ _
  obtain ⟨w_a36, hW, g36_m, g36_q7, g36_q15, g36_q23, g36_q31, g36_q40, g36_q48, g36_q62, g36_q71, g36_q80⟩ : ∃ w', wd_P D vwCl (wd_A w sg.heap.size) w' H ∧ w' m = some (.inr (3, [.ref q7, .ref q15, .int 0, .ref q23, .ref q31, .ref q40, .ref q48, .int 0, .int 0, .int (-1), .ref q62, .int 0, .ref q71, .int 0, .null, .int 0, .int 0, .null])) ∧ w' q7 = some (.inl (cI, 10, .inl (fun _ => 0))) ∧ w' q15 = some (.inl (cI, 12, .inl (fun _ => 0))) ∧ w' q23 = some (.inl (cI, 24, .inl (fun _ => 0))) ∧ w' q31 = some (.inl (cI, 24, .inl (fun _ => 0))) ∧ w' q40 = some (.inl (cI, 5760, .inl (fun _ => 0))) ∧ w' q48 = some (.inl (cI, 60, .inl (fun _ => 0))) ∧ w' q62 = some (.inl (cI, 240, .inl (fun _ => 0))) ∧ w' q71 = some (.inl (cI, 480, .inl (fun _ => 0))) ∧ w' q80 = some (.inl (cI, 480, .inl (fun _ => 0))) := ⟨_, hW, f35_m, f35_q7, f35_q15, f35_q23, f35_q31, f35_q40, f35_q48, f35_q62, f35_q71, f35_q80⟩
  refine wd_putF (ci := 3) (v := .ref q80) (ty := (.array .int)) (C := RX3) (T := TX3) (N := 18) hx hb hts (by decide +kernel) tyX3 tyX3_ok nmX3 hown hK.1 hW hS g36_m rfl 14 (by decide) (hts (.fieldLink RX3 38 "CharRowsModel" "others" "[I") (by decide +kernel)) (fun _ h9 => h9) rfl hnm rfl (by decide +kernel) rfl rfl (Nat.le_of_ble_eq_true rfl) dX3_init_82 (fun H locs hW hS => ?_)
  have f37_m : (wd_up w_a36 m (.inr (3, [.ref q7, .ref q15, .int 0, .ref q23, .ref q31, .ref q40, .ref q48, .int 0, .int 0, .int (-1), .ref q62, .int 0, .ref q71, .int 0, .ref q80, .int 0, .int 0, .null]))) m = some (.inr (3, [.ref q7, .ref q15, .int 0, .ref q23, .ref q31, .ref q40, .ref q48, .int 0, .int 0, .int (-1), .ref q62, .int 0, .ref q71, .int 0, .ref q80, .int 0, .int 0, .null])) := wd_up_self _ _ _
  have f37_q7 : (wd_up w_a36 m (.inr (3, [.ref q7, .ref q15, .int 0, .ref q23, .ref q31, .ref q40, .ref q48, .int 0, .int 0, .int (-1), .ref q62, .int 0, .ref q71, .int 0, .ref q80, .int 0, .int 0, .null]))) q7 = some (.inl (cI, 10, .inl (fun _ => 0))) := (wd_up_ne _ _ (Ne.symm ne_m_q7)).trans g36_q7
  have f37_q15 : (wd_up w_a36 m (.inr (3, [.ref q7, .ref q15, .int 0, .ref q23, .ref q31, .ref q40, .ref q48, .int 0, .int 0, .int (-1), .ref q62, .int 0, .ref q71, .int 0, .ref q80, .int 0, .int 0, .null]))) q15 = some (.inl (cI, 12, .inl (fun _ => 0))) := (wd_up_ne _ _ (Ne.symm ne_m_q15)).trans g36_q15
  have f37_q23 : (wd_up w_a36 m (.inr (3, [.ref q7, .ref q15, .int 0, .ref q23, .ref q31, .ref q40, .ref q48, .int 0, .int 0, .int (-1), .ref q62, .int 0, .ref q71, .int 0, .ref q80, .int 0, .int 0, .null]))) q23 = some (.inl (cI, 24, .inl (fun _ => 0))) := (wd_up_ne _ _ (Ne.symm ne_m_q23)).trans g36_q23
  have f37_q31 : (wd_up w_a36 m (.inr (3, [.ref q7, .ref q15, .int 0, .ref q23, .ref q31, .ref q40, .ref q48, .int 0, .int 0, .int (-1), .ref q62, .int 0, .ref q71, .int 0, .ref q80, .int 0, .int 0, .null]))) q31 = some (.inl (cI, 24, .inl (fun _ => 0))) := (wd_up_ne _ _ (Ne.symm ne_m_q31)).trans g36_q31
  have f37_q40 : (wd_up w_a36 m (.inr (3, [.ref q7, .ref q15, .int 0, .ref q23, .ref q31, .ref q40, .ref q48, .int 0, .int 0, .int (-1), .ref q62, .int 0, .ref q71, .int 0, .ref q80, .int 0, .int 0, .null]))) q40 = some (.inl (cI, 5760, .inl (fun _ => 0))) := (wd_up_ne _ _ (Ne.symm ne_m_q40)).trans g36_q40
  have f37_q48 : (wd_up w_a36 m (.inr (3, [.ref q7, .ref q15, .int 0, .ref q23, .ref q31, .ref q40, .ref q48, .int 0, .int 0, .int (-1), .ref q62, .int 0, .ref q71, .int 0, .ref q80, .int 0, .int 0, .null]))) q48 = some (.inl (cI, 60, .inl (fun _ => 0))) := (wd_up_ne _ _ (Ne.symm ne_m_q48)).trans g36_q48
  have f37_q62 : (wd_up w_a36 m (.inr (3, [.ref q7, .ref q15, .int 0, .ref q23, .ref q31, .ref q40, .ref q48, .int 0, .int 0, .int (-1), .ref q62, .int 0, .ref q71, .int 0, .ref q80, .int 0, .int 0, .null]))) q62 = some (.inl (cI, 240, .inl (fun _ => 0))) := (wd_up_ne _ _ (Ne.symm ne_m_q62)).trans g36_q62
  have f37_q71 : (wd_up w_a36 m (.inr (3, [.ref q7, .ref q15, .int 0, .ref q23, .ref q31, .ref q40, .ref q48, .int 0, .int 0, .int (-1), .ref q62, .int 0, .ref q71, .int 0, .ref q80, .int 0, .int 0, .null]))) q71 = some (.inl (cI, 480, .inl (fun _ => 0))) := (wd_up_ne _ _ (Ne.symm ne_m_q71)).trans g36_q71
  have f37_q80 : (wd_up w_a36 m (.inr (3, [.ref q7, .ref q15, .int 0, .ref q23, .ref q31, .ref q40, .ref q48, .int 0, .int 0, .int (-1), .ref q62, .int 0, .ref q71, .int 0, .ref q80, .int 0, .int 0, .null]))) q80 = some (.inl (cI, 480, .inl (fun _ => 0))) := (wd_up_ne _ _ (Ne.symm ne_m_q80)).trans g36_q80
  obtain ⟨w_a38, hW, g38_m, g38_q7, g38_q15, g38_q23, g38_q31, g38_q40, g38_q48, g38_q62, g38_q71, g38_q80⟩ : ∃ w', wd_P D vwCl (wd_A w sg.heap.size) w' H ∧ w' m = some (.inr (3, [.ref q7, .ref q15, .int 0, .ref q23, .ref q31, .ref q40, .ref q48, .int 0, .int 0, .int (-1), .ref q62, .int 0, .ref q71, .int 0, .ref q80, .int 0, .int 0, .null])) ∧ w' q7 = some (.inl (cI, 10, .inl (fun _ => 0))) ∧ w' q15 = some (.inl (cI, 12, .inl (fun _ => 0))) ∧ w' q23 = some (.inl (cI, 24, .inl (fun _ => 0))) ∧ w' q31 = some (.inl (cI, 24, .inl (fun _ => 0))) ∧ w' q40 = some (.inl (cI, 5760, .inl (fun _ => 0))) ∧ w' q48 = some (.inl (cI, 60, .inl (fun _ => 0))) ∧ w' q62 = some (.inl (cI, 240, .inl (fun _ => 0))) ∧ w' q71 = some (.inl (cI, 480, .inl (fun _ => 0))) ∧ w' q80 = some (.inl (cI, 480, .inl (fun _ => 0))) := ⟨_, hW, f37_m, f37_q7, f37_q15, f37_q23, f37_q31, f37_q40, f37_q48, f37_q62, f37_q71, f37_q80⟩
  refine lv_aload_n hx hb dX3_init_85 rfl (lv_at hl 0 rfl) ?_
  refine lv_sipush (v := 480) hx hb dX3_init_86 (by decide) ?_
  refine wd_newi (N' := 480) hx hb (hts (.arrayClass .int) (by decide +kernel)) hK.1 0 rfl hW hS hA (nI_pos (n := 480) (by omega)) (nI_clamp (n := 480) (by omega)) (by omega) (Nat.le_of_ble_eq_true rfl) (Nat.le_of_ble_eq_true rfl) dX3_init_89 (fun q89 H hq89 hW hS => ?_)
  refine W.widen (k := 10) (n := 7570) (by omega) (by omega) ?_
  have ne_m_q89 : m ≠ q89 := wd_fresh hq89 g38_m
  have ne_q7_q89 : q7 ≠ q89 := wd_fresh hq89 g38_q7
  have ne_q15_q89 : q15 ≠ q89 := wd_fresh hq89 g38_q15
  have ne_q23_q89 : q23 ≠ q89 := wd_fresh hq89 g38_q23
  have ne_q31_q89 : q31 ≠ q89 := wd_fresh hq89 g38_q31
  have ne_q40_q89 : q40 ≠ q89 := wd_fresh hq89 g38_q40
  have ne_q48_q89 : q48 ≠ q89 := wd_fresh hq89 g38_q48
  have ne_q62_q89 : q62 ≠ q89 := wd_fresh hq89 g38_q62
  have ne_q71_q89 : q71 ≠ q89 := wd_fresh hq89 g38_q71
  have ne_q80_q89 : q80 ≠ q89 := wd_fresh hq89 g38_q80
  have f39_m : (wd_up w_a38 q89 (.inl (cI, 480, .inl (fun _ => 0)))) m = some (.inr (3, [.ref q7, .ref q15, .int 0, .ref q23, .ref q31, .ref q40, .ref q48, .int 0, .int 0, .int (-1), .ref q62, .int 0, .ref q71, .int 0, .ref q80, .int 0, .int 0, .null])) := (wd_up_ne _ _ (wd_fresh hq89 g38_m)).trans g38_m
  have f39_q7 : (wd_up w_a38 q89 (.inl (cI, 480, .inl (fun _ => 0)))) q7 = some (.inl (cI, 10, .inl (fun _ => 0))) := (wd_up_ne _ _ (wd_fresh hq89 g38_q7)).trans g38_q7
  have f39_q15 : (wd_up w_a38 q89 (.inl (cI, 480, .inl (fun _ => 0)))) q15 = some (.inl (cI, 12, .inl (fun _ => 0))) := (wd_up_ne _ _ (wd_fresh hq89 g38_q15)).trans g38_q15
  have f39_q23 : (wd_up w_a38 q89 (.inl (cI, 480, .inl (fun _ => 0)))) q23 = some (.inl (cI, 24, .inl (fun _ => 0))) := (wd_up_ne _ _ (wd_fresh hq89 g38_q23)).trans g38_q23
  have f39_q31 : (wd_up w_a38 q89 (.inl (cI, 480, .inl (fun _ => 0)))) q31 = some (.inl (cI, 24, .inl (fun _ => 0))) := (wd_up_ne _ _ (wd_fresh hq89 g38_q31)).trans g38_q31
  have f39_q40 : (wd_up w_a38 q89 (.inl (cI, 480, .inl (fun _ => 0)))) q40 = some (.inl (cI, 5760, .inl (fun _ => 0))) := (wd_up_ne _ _ (wd_fresh hq89 g38_q40)).trans g38_q40
  have f39_q48 : (wd_up w_a38 q89 (.inl (cI, 480, .inl (fun _ => 0)))) q48 = some (.inl (cI, 60, .inl (fun _ => 0))) := (wd_up_ne _ _ (wd_fresh hq89 g38_q48)).trans g38_q48
  have f39_q62 : (wd_up w_a38 q89 (.inl (cI, 480, .inl (fun _ => 0)))) q62 = some (.inl (cI, 240, .inl (fun _ => 0))) := (wd_up_ne _ _ (wd_fresh hq89 g38_q62)).trans g38_q62
  have f39_q71 : (wd_up w_a38 q89 (.inl (cI, 480, .inl (fun _ => 0)))) q71 = some (.inl (cI, 480, .inl (fun _ => 0))) := (wd_up_ne _ _ (wd_fresh hq89 g38_q71)).trans g38_q71
  have f39_q80 : (wd_up w_a38 q89 (.inl (cI, 480, .inl (fun _ => 0)))) q80 = some (.inl (cI, 480, .inl (fun _ => 0))) := (wd_up_ne _ _ (wd_fresh hq89 g38_q80)).trans g38_q80
  have f39_q89 : (wd_up w_a38 q89 (.inl (cI, 480, .inl (fun _ => 0)))) q89 = some (.inl (cI, 480, .inl (fun _ => 0))) := wd_up_self _ _ _
  obtain ⟨w_a40, hW, g40_m, g40_q7, g40_q15, g40_q23, g40_q31, g40_q40, g40_q48, g40_q62, g40_q71, g40_q80, g40_q89⟩ : ∃ w', wd_P D vwCl (wd_A w sg.heap.size) w' H ∧ w' m = some (.inr (3, [.ref q7, .ref q15, .int 0, .ref q23, .ref q31, .ref q40, .ref q48, .int 0, .int 0, .int (-1), .ref q62, .int 0, .ref q71, .int 0, .ref q80, .int 0, .int 0, .null])) ∧ w' q7 = some (.inl (cI, 10, .inl (fun _ => 0))) ∧ w' q15 = some (.inl (cI, 12, .inl (fun _ => 0))) ∧ w' q23 = some (.inl (cI, 24, .inl (fun _ => 0))) ∧ w' q31 = some (.inl (cI, 24, .inl (fun _ => 0))) ∧ w' q40 = some (.inl (cI, 5760, .inl (fun _ => 0))) ∧ w' q48 = some (.inl (cI, 60, .inl (fun _ => 0))) ∧ w' q62 = some (.inl (cI, 240, .inl (fun _ => 0))) ∧ w' q71 = some (.inl (cI, 480, .inl (fun _ => 0))) ∧ w' q80 = some (.inl (cI, 480, .inl (fun _ => 0))) ∧ w' q89 = some (.inl (cI, 480, .inl (fun _ => 0))) := ⟨_, hW, f39_m, f39_q7, f39_q15, f39_q23, f39_q31, f39_q40, f39_q48, f39_q62, f39_q71, f39_q80, f39_q89⟩
  refine wd_putF (ci := 3) (v := .ref q89) (ty := (.array .int)) (C := RX3) (T := TX3) (N := 18) hx hb hts (by decide +kernel) tyX3 tyX3_ok nmX3 hown hK.1 hW hS g40_m rfl 17 (by decide) (hts (.fieldLink RX3 41 "CharRowsModel" "bytes" "[I") (by decide +kernel)) (fun _ h9 => h9) rfl hnm rfl (by decide +kernel) rfl rfl (Nat.le_of_ble_eq_true rfl) dX3_init_91 (fun H locs hW hS => ?_)
  have f41_m : (wd_up w_a40 m (.inr (3, [.ref q7, .ref q15, .int 0, .ref q23, .ref q31, .ref q40, .ref q48, .int 0, .int 0, .int (-1), .ref q62, .int 0, .ref q71, .int 0, .ref q80, .int 0, .int 0, .ref q89]))) m = some (.inr (3, [.ref q7, .ref q15, .int 0, .ref q23, .ref q31, .ref q40, .ref q48, .int 0, .int 0, .int (-1), .ref q62, .int 0, .ref q71, .int 0, .ref q80, .int 0, .int 0, .ref q89])) := wd_up_self _ _ _
  have f41_q7 : (wd_up w_a40 m (.inr (3, [.ref q7, .ref q15, .int 0, .ref q23, .ref q31, .ref q40, .ref q48, .int 0, .int 0, .int (-1), .ref q62, .int 0, .ref q71, .int 0, .ref q80, .int 0, .int 0, .ref q89]))) q7 = some (.inl (cI, 10, .inl (fun _ => 0))) := (wd_up_ne _ _ (Ne.symm ne_m_q7)).trans g40_q7
  have f41_q15 : (wd_up w_a40 m (.inr (3, [.ref q7, .ref q15, .int 0, .ref q23, .ref q31, .ref q40, .ref q48, .int 0, .int 0, .int (-1), .ref q62, .int 0, .ref q71, .int 0, .ref q80, .int 0, .int 0, .ref q89]))) q15 = some (.inl (cI, 12, .inl (fun _ => 0))) := (wd_up_ne _ _ (Ne.symm ne_m_q15)).trans g40_q15
  have f41_q23 : (wd_up w_a40 m (.inr (3, [.ref q7, .ref q15, .int 0, .ref q23, .ref q31, .ref q40, .ref q48, .int 0, .int 0, .int (-1), .ref q62, .int 0, .ref q71, .int 0, .ref q80, .int 0, .int 0, .ref q89]))) q23 = some (.inl (cI, 24, .inl (fun _ => 0))) := (wd_up_ne _ _ (Ne.symm ne_m_q23)).trans g40_q23
  have f41_q31 : (wd_up w_a40 m (.inr (3, [.ref q7, .ref q15, .int 0, .ref q23, .ref q31, .ref q40, .ref q48, .int 0, .int 0, .int (-1), .ref q62, .int 0, .ref q71, .int 0, .ref q80, .int 0, .int 0, .ref q89]))) q31 = some (.inl (cI, 24, .inl (fun _ => 0))) := (wd_up_ne _ _ (Ne.symm ne_m_q31)).trans g40_q31
  have f41_q40 : (wd_up w_a40 m (.inr (3, [.ref q7, .ref q15, .int 0, .ref q23, .ref q31, .ref q40, .ref q48, .int 0, .int 0, .int (-1), .ref q62, .int 0, .ref q71, .int 0, .ref q80, .int 0, .int 0, .ref q89]))) q40 = some (.inl (cI, 5760, .inl (fun _ => 0))) := (wd_up_ne _ _ (Ne.symm ne_m_q40)).trans g40_q40
  have f41_q48 : (wd_up w_a40 m (.inr (3, [.ref q7, .ref q15, .int 0, .ref q23, .ref q31, .ref q40, .ref q48, .int 0, .int 0, .int (-1), .ref q62, .int 0, .ref q71, .int 0, .ref q80, .int 0, .int 0, .ref q89]))) q48 = some (.inl (cI, 60, .inl (fun _ => 0))) := (wd_up_ne _ _ (Ne.symm ne_m_q48)).trans g40_q48
  have f41_q62 : (wd_up w_a40 m (.inr (3, [.ref q7, .ref q15, .int 0, .ref q23, .ref q31, .ref q40, .ref q48, .int 0, .int 0, .int (-1), .ref q62, .int 0, .ref q71, .int 0, .ref q80, .int 0, .int 0, .ref q89]))) q62 = some (.inl (cI, 240, .inl (fun _ => 0))) := (wd_up_ne _ _ (Ne.symm ne_m_q62)).trans g40_q62
  have f41_q71 : (wd_up w_a40 m (.inr (3, [.ref q7, .ref q15, .int 0, .ref q23, .ref q31, .ref q40, .ref q48, .int 0, .int 0, .int (-1), .ref q62, .int 0, .ref q71, .int 0, .ref q80, .int 0, .int 0, .ref q89]))) q71 = some (.inl (cI, 480, .inl (fun _ => 0))) := (wd_up_ne _ _ (Ne.symm ne_m_q71)).trans g40_q71
  have f41_q80 : (wd_up w_a40 m (.inr (3, [.ref q7, .ref q15, .int 0, .ref q23, .ref q31, .ref q40, .ref q48, .int 0, .int 0, .int (-1), .ref q62, .int 0, .ref q71, .int 0, .ref q80, .int 0, .int 0, .ref q89]))) q80 = some (.inl (cI, 480, .inl (fun _ => 0))) := (wd_up_ne _ _ (Ne.symm ne_m_q80)).trans g40_q80
  have f41_q89 : (wd_up w_a40 m (.inr (3, [.ref q7, .ref q15, .int 0, .ref q23, .ref q31, .ref q40, .ref q48, .int 0, .int 0, .int (-1), .ref q62, .int 0, .ref q71, .int 0, .ref q80, .int 0, .int 0, .ref q89]))) q89 = some (.inl (cI, 480, .inl (fun _ => 0))) := (wd_up_ne _ _ (Ne.symm ne_m_q89)).trans g40_q89
  obtain ⟨w_a42, hW, g42_m, g42_q7, g42_q15, g42_q23, g42_q31, g42_q40, g42_q48, g42_q62, g42_q71, g42_q80, g42_q89⟩ : ∃ w', wd_P D vwCl (wd_A w sg.heap.size) w' H ∧ w' m = some (.inr (3, [.ref q7, .ref q15, .int 0, .ref q23, .ref q31, .ref q40, .ref q48, .int 0, .int 0, .int (-1), .ref q62, .int 0, .ref q71, .int 0, .ref q80, .int 0, .int 0, .ref q89])) ∧ w' q7 = some (.inl (cI, 10, .inl (fun _ => 0))) ∧ w' q15 = some (.inl (cI, 12, .inl (fun _ => 0))) ∧ w' q23 = some (.inl (cI, 24, .inl (fun _ => 0))) ∧ w' q31 = some (.inl (cI, 24, .inl (fun _ => 0))) ∧ w' q40 = some (.inl (cI, 5760, .inl (fun _ => 0))) ∧ w' q48 = some (.inl (cI, 60, .inl (fun _ => 0))) ∧ w' q62 = some (.inl (cI, 240, .inl (fun _ => 0))) ∧ w' q71 = some (.inl (cI, 480, .inl (fun _ => 0))) ∧ w' q80 = some (.inl (cI, 480, .inl (fun _ => 0))) ∧ w' q89 = some (.inl (cI, 480, .inl (fun _ => 0))) := ⟨_, hW, f41_m, f41_q7, f41_q15, f41_q23, f41_q31, f41_q40, f41_q48, f41_q62, f41_q71, f41_q80, f41_q89⟩
  refine lv_iconst (v := 0) hx hb dX3_init_94 (by decide) ?_
  refine lv_istore_n (lv' := [(1, .int 0), (0, .ref m)]) hx hb dX3_init_95 rfl hl (by decide) rfl (fun ls hl => ?_)
  refine wd_loop2 (fun (k : Nat) (f : Nat → Int32) (H : Heap) (locs : List Loc) (ls : Array Slot) => (k ≤ 10) ∧ (∀ j, j < k → f j = -1) ∧ (∃ w', wd_P D vwCl (wd_A w sg.heap.size) w' H ∧ w' m = some (.inr (3, [.ref q7, .ref q15, .int 0, .ref q23, .ref q31, .ref q40, .ref q48, .int 0, .int 0, .int (-1), .ref q62, .int 0, .ref q71, .int 0, .ref q80, .int 0, .int 0, .ref q89])) ∧ w' q7 = some (.inl (cI, 10, .inl f)) ∧ w' q15 = some (.inl (cI, 12, .inl (fun _ => 0))) ∧ w' q23 = some (.inl (cI, 24, .inl (fun _ => 0))) ∧ w' q31 = some (.inl (cI, 24, .inl (fun _ => 0))) ∧ w' q40 = some (.inl (cI, 5760, .inl (fun _ => 0))) ∧ w' q48 = some (.inl (cI, 60, .inl (fun _ => 0))) ∧ w' q62 = some (.inl (cI, 240, .inl (fun _ => 0))) ∧ w' q71 = some (.inl (cI, 480, .inl (fun _ => 0))) ∧ w' q80 = some (.inl (cI, 480, .inl (fun _ => 0))) ∧ w' q89 = some (.inl (cI, 480, .inl (fun _ => 0)))) ∧ va_S (wd_A w sg.heap.size) sg.heap H locs ∧ lv_has ls 2 [(0, .ref m), (1, .int (nI k))]) (fun (k : Nat) (_ : Nat → Int32) => 10 - k) 0 (fun _ => 0) ⟨by omega, fun j hj => absurd hj (Nat.not_lt_zero j), ⟨_, hW, g42_m, g42_q7, g42_q15, g42_q23, g42_q31, g42_q40, g42_q48, g42_q62, g42_q71, g42_q80, g42_q89⟩, hS, (lv_sub hl [1, 0] rfl)⟩ (fun k f H locs ls hI ih_96 => ?_)
  obtain ⟨hk, hall, ⟨w_l, hW, l_m, l_q7, l_q15, l_q23, l_q31, l_q40, l_q48, l_q62, l_q71, l_q80, l_q89⟩, hS, hl⟩ := hI
  refine lv_iload_n hx hb dX3_init_96 rfl (lv_at hl 1 rfl) ?_
  refine lv_bipush (v := 10) hx hb dX3_init_97 (by decide) ?_
  refine lv_icmp_ge (tgt := 115) hx hb dX3_init_99 (by decide) (fun c_99 => ?_) (fun c_99 => ?_)
  ·
    have c_99 : 10 ≤ k := (nI_leI (by omega) (by omega)).mp (show (nI 10 ≤ nI k) from c_99)
    have hW := wd_norm (f' := fun t => oI ((fun _ => none : Nat → Option Nat) t)) hW l_q7 (m1_ten (fun j hj => hall j (by omega)))
    refine wd_vret hx hb hr hlocks hW hS dX3_init_115 ?_
    refine ⟨fun i => match i with | 0 => q7 | 1 => q15 | 2 => q23 | 3 => q31 | 4 => q40 | 5 => q48 | 6 => q62 | 7 => q71 | 8 => q80 | _ => q89, fun _ => 0, (fun _ => 0, 0), (fun _ => 0, 0), (fun _ => 0, 0), (fun _ => 0, 0), (fun _ => 0, 0), ⟨(wd_up_ne _ _ (wd_ne l_m l_q7 (by simp))).trans l_m, wd_up_self _ _ _, (wd_up_ne _ _ (Ne.symm ne_q7_q15)).trans l_q15, (wd_up_ne _ _ (Ne.symm ne_q7_q23)).trans l_q23, (wd_up_ne _ _ (Ne.symm ne_q7_q31)).trans l_q31, (wd_up_ne _ _ (Ne.symm ne_q7_q40)).trans l_q40, (wd_up_ne _ _ (Ne.symm ne_q7_q48)).trans l_q48, (wd_up_ne _ _ (Ne.symm ne_q7_q62)).trans l_q62, (wd_up_ne _ _ (Ne.symm ne_q7_q71)).trans l_q71, (wd_up_ne _ _ (Ne.symm ne_q7_q80)).trans l_q80, (wd_up_ne _ _ (Ne.symm ne_q7_q89)).trans l_q89, ?_⟩, rfl, ?_⟩
    · intro i j hi hj
      match i, j, hi, hj with
      | 0, 0, _, _ => exact fun _ => rfl
      | 0, 1, _, _ => exact fun h => absurd h ne_q7_q15
      | 0, 2, _, _ => exact fun h => absurd h ne_q7_q23
      | 0, 3, _, _ => exact fun h => absurd h ne_q7_q31
      | 0, 4, _, _ => exact fun h => absurd h ne_q7_q40
      | 0, 5, _, _ => exact fun h => absurd h ne_q7_q48
      | 0, 6, _, _ => exact fun h => absurd h ne_q7_q62
      | 0, 7, _, _ => exact fun h => absurd h ne_q7_q71
      | 0, 8, _, _ => exact fun h => absurd h ne_q7_q80
      | 0, 9, _, _ => exact fun h => absurd h ne_q7_q89
      | 1, 0, _, _ => exact fun h => absurd h (Ne.symm ne_q7_q15)
      | 1, 1, _, _ => exact fun _ => rfl
      | 1, 2, _, _ => exact fun h => absurd h ne_q15_q23
      | 1, 3, _, _ => exact fun h => absurd h ne_q15_q31
      | 1, 4, _, _ => exact fun h => absurd h ne_q15_q40
      | 1, 5, _, _ => exact fun h => absurd h ne_q15_q48
      | 1, 6, _, _ => exact fun h => absurd h ne_q15_q62
      | 1, 7, _, _ => exact fun h => absurd h ne_q15_q71
      | 1, 8, _, _ => exact fun h => absurd h ne_q15_q80
      | 1, 9, _, _ => exact fun h => absurd h ne_q15_q89
      | 2, 0, _, _ => exact fun h => absurd h (Ne.symm ne_q7_q23)
      | 2, 1, _, _ => exact fun h => absurd h (Ne.symm ne_q15_q23)
      | 2, 2, _, _ => exact fun _ => rfl
      | 2, 3, _, _ => exact fun h => absurd h ne_q23_q31
      | 2, 4, _, _ => exact fun h => absurd h ne_q23_q40
      | 2, 5, _, _ => exact fun h => absurd h ne_q23_q48
      | 2, 6, _, _ => exact fun h => absurd h ne_q23_q62
      | 2, 7, _, _ => exact fun h => absurd h ne_q23_q71
      | 2, 8, _, _ => exact fun h => absurd h ne_q23_q80
      | 2, 9, _, _ => exact fun h => absurd h ne_q23_q89
      | 3, 0, _, _ => exact fun h => absurd h (Ne.symm ne_q7_q31)
      | 3, 1, _, _ => exact fun h => absurd h (Ne.symm ne_q15_q31)
      | 3, 2, _, _ => exact fun h => absurd h (Ne.symm ne_q23_q31)
      | 3, 3, _, _ => exact fun _ => rfl
      | 3, 4, _, _ => exact fun h => absurd h ne_q31_q40
      | 3, 5, _, _ => exact fun h => absurd h ne_q31_q48
      | 3, 6, _, _ => exact fun h => absurd h ne_q31_q62
      | 3, 7, _, _ => exact fun h => absurd h ne_q31_q71
      | 3, 8, _, _ => exact fun h => absurd h ne_q31_q80
      | 3, 9, _, _ => exact fun h => absurd h ne_q31_q89
      | 4, 0, _, _ => exact fun h => absurd h (Ne.symm ne_q7_q40)
      | 4, 1, _, _ => exact fun h => absurd h (Ne.symm ne_q15_q40)
      | 4, 2, _, _ => exact fun h => absurd h (Ne.symm ne_q23_q40)
      | 4, 3, _, _ => exact fun h => absurd h (Ne.symm ne_q31_q40)
      | 4, 4, _, _ => exact fun _ => rfl
      | 4, 5, _, _ => exact fun h => absurd h ne_q40_q48
      | 4, 6, _, _ => exact fun h => absurd h ne_q40_q62
      | 4, 7, _, _ => exact fun h => absurd h ne_q40_q71
      | 4, 8, _, _ => exact fun h => absurd h ne_q40_q80
      | 4, 9, _, _ => exact fun h => absurd h ne_q40_q89
      | 5, 0, _, _ => exact fun h => absurd h (Ne.symm ne_q7_q48)
      | 5, 1, _, _ => exact fun h => absurd h (Ne.symm ne_q15_q48)
      | 5, 2, _, _ => exact fun h => absurd h (Ne.symm ne_q23_q48)
      | 5, 3, _, _ => exact fun h => absurd h (Ne.symm ne_q31_q48)
      | 5, 4, _, _ => exact fun h => absurd h (Ne.symm ne_q40_q48)
      | 5, 5, _, _ => exact fun _ => rfl
      | 5, 6, _, _ => exact fun h => absurd h ne_q48_q62
      | 5, 7, _, _ => exact fun h => absurd h ne_q48_q71
      | 5, 8, _, _ => exact fun h => absurd h ne_q48_q80
      | 5, 9, _, _ => exact fun h => absurd h ne_q48_q89
      | 6, 0, _, _ => exact fun h => absurd h (Ne.symm ne_q7_q62)
      | 6, 1, _, _ => exact fun h => absurd h (Ne.symm ne_q15_q62)
      | 6, 2, _, _ => exact fun h => absurd h (Ne.symm ne_q23_q62)
      | 6, 3, _, _ => exact fun h => absurd h (Ne.symm ne_q31_q62)
      | 6, 4, _, _ => exact fun h => absurd h (Ne.symm ne_q40_q62)
      | 6, 5, _, _ => exact fun h => absurd h (Ne.symm ne_q48_q62)
      | 6, 6, _, _ => exact fun _ => rfl
      | 6, 7, _, _ => exact fun h => absurd h ne_q62_q71
      | 6, 8, _, _ => exact fun h => absurd h ne_q62_q80
      | 6, 9, _, _ => exact fun h => absurd h ne_q62_q89
      | 7, 0, _, _ => exact fun h => absurd h (Ne.symm ne_q7_q71)
      | 7, 1, _, _ => exact fun h => absurd h (Ne.symm ne_q15_q71)
      | 7, 2, _, _ => exact fun h => absurd h (Ne.symm ne_q23_q71)
      | 7, 3, _, _ => exact fun h => absurd h (Ne.symm ne_q31_q71)
      | 7, 4, _, _ => exact fun h => absurd h (Ne.symm ne_q40_q71)
      | 7, 5, _, _ => exact fun h => absurd h (Ne.symm ne_q48_q71)
      | 7, 6, _, _ => exact fun h => absurd h (Ne.symm ne_q62_q71)
      | 7, 7, _, _ => exact fun _ => rfl
      | 7, 8, _, _ => exact fun h => absurd h ne_q71_q80
      | 7, 9, _, _ => exact fun h => absurd h ne_q71_q89
      | 8, 0, _, _ => exact fun h => absurd h (Ne.symm ne_q7_q80)
      | 8, 1, _, _ => exact fun h => absurd h (Ne.symm ne_q15_q80)
      | 8, 2, _, _ => exact fun h => absurd h (Ne.symm ne_q23_q80)
      | 8, 3, _, _ => exact fun h => absurd h (Ne.symm ne_q31_q80)
      | 8, 4, _, _ => exact fun h => absurd h (Ne.symm ne_q40_q80)
      | 8, 5, _, _ => exact fun h => absurd h (Ne.symm ne_q48_q80)
      | 8, 6, _, _ => exact fun h => absurd h (Ne.symm ne_q62_q80)
      | 8, 7, _, _ => exact fun h => absurd h (Ne.symm ne_q71_q80)
      | 8, 8, _, _ => exact fun _ => rfl
      | 8, 9, _, _ => exact fun h => absurd h ne_q80_q89
      | 9, 0, _, _ => exact fun h => absurd h (Ne.symm ne_q7_q89)
      | 9, 1, _, _ => exact fun h => absurd h (Ne.symm ne_q15_q89)
      | 9, 2, _, _ => exact fun h => absurd h (Ne.symm ne_q23_q89)
      | 9, 3, _, _ => exact fun h => absurd h (Ne.symm ne_q31_q89)
      | 9, 4, _, _ => exact fun h => absurd h (Ne.symm ne_q40_q89)
      | 9, 5, _, _ => exact fun h => absurd h (Ne.symm ne_q48_q89)
      | 9, 6, _, _ => exact fun h => absurd h (Ne.symm ne_q62_q89)
      | 9, 7, _, _ => exact fun h => absurd h (Ne.symm ne_q71_q89)
      | 9, 8, _, _ => exact fun h => absurd h (Ne.symm ne_q80_q89)
      | 9, 9, _, _ => exact fun _ => rfl
      | a + 10, _, h, _ => exact absurd h (by omega)
      | _, b + 10, _, h => exact absurd h (by omega)
    · exact fun r hr => ⟨by show 0 ≤ 240; omega, fun k hk => absurd hk (Nat.not_lt_zero k)⟩
  ·
    have c_99 : ¬ (10 ≤ k) := fun q9 => absurd ((nI_leI (by omega) (by omega)).mpr q9) (show ¬ (nI 10 ≤ nI k) from c_99)
    refine lv_aload_n hx hb dX3_init_102 rfl (lv_at hl 0 rfl) ?_
    refine wd_get (ci := 3) (v := .ref q7) (C := RX3) (T := TX3) (N := 18) hx hb hts (by decide +kernel) hown hK.1 hW l_m rfl 0 (by decide) (hts (.fieldLink RX3 7 "CharRowsModel" "textRow" "[I") (by decide +kernel)) (fun _ h9 => h9) rfl dX3_init_103 ?_
    refine lv_iload_n hx hb dX3_init_106 rfl (lv_at hl 1 rfl) ?_
    refine lv_iconst (v := (-1)) hx hb dX3_init_107 (by decide) ?_
    refine wd_iast hx hb hK.1 hW hS 0 l_q7 rfl (vp_in_nI (by omega) (by omega)) dX3_init_108 (fun H locs hW hS => ?_)
    rw [nI_clamp (by omega)] at hW
    have f43_m : (wd_up w_l q7 (.inl (cI, 10, .inl (upd f k (-1))))) m = some (.inr (3, [.ref q7, .ref q15, .int 0, .ref q23, .ref q31, .ref q40, .ref q48, .int 0, .int 0, .int (-1), .ref q62, .int 0, .ref q71, .int 0, .ref q80, .int 0, .int 0, .ref q89])) := (wd_up_ne _ _ ne_m_q7).trans l_m
    have f43_q7 : (wd_up w_l q7 (.inl (cI, 10, .inl (upd f k (-1))))) q7 = some (.inl (cI, 10, .inl (upd f k (-1)))) := wd_up_self _ _ _
    have f43_q15 : (wd_up w_l q7 (.inl (cI, 10, .inl (upd f k (-1))))) q15 = some (.inl (cI, 12, .inl (fun _ => 0))) := (wd_up_ne _ _ (Ne.symm ne_q7_q15)).trans l_q15
    have f43_q23 : (wd_up w_l q7 (.inl (cI, 10, .inl (upd f k (-1))))) q23 = some (.inl (cI, 24, .inl (fun _ => 0))) := (wd_up_ne _ _ (Ne.symm ne_q7_q23)).trans l_q23
    have f43_q31 : (wd_up w_l q7 (.inl (cI, 10, .inl (upd f k (-1))))) q31 = some (.inl (cI, 24, .inl (fun _ => 0))) := (wd_up_ne _ _ (Ne.symm ne_q7_q31)).trans l_q31
    have f43_q40 : (wd_up w_l q7 (.inl (cI, 10, .inl (upd f k (-1))))) q40 = some (.inl (cI, 5760, .inl (fun _ => 0))) := (wd_up_ne _ _ (Ne.symm ne_q7_q40)).trans l_q40
    have f43_q48 : (wd_up w_l q7 (.inl (cI, 10, .inl (upd f k (-1))))) q48 = some (.inl (cI, 60, .inl (fun _ => 0))) := (wd_up_ne _ _ (Ne.symm ne_q7_q48)).trans l_q48
    have f43_q62 : (wd_up w_l q7 (.inl (cI, 10, .inl (upd f k (-1))))) q62 = some (.inl (cI, 240, .inl (fun _ => 0))) := (wd_up_ne _ _ (Ne.symm ne_q7_q62)).trans l_q62
    have f43_q71 : (wd_up w_l q7 (.inl (cI, 10, .inl (upd f k (-1))))) q71 = some (.inl (cI, 480, .inl (fun _ => 0))) := (wd_up_ne _ _ (Ne.symm ne_q7_q71)).trans l_q71
    have f43_q80 : (wd_up w_l q7 (.inl (cI, 10, .inl (upd f k (-1))))) q80 = some (.inl (cI, 480, .inl (fun _ => 0))) := (wd_up_ne _ _ (Ne.symm ne_q7_q80)).trans l_q80
    have f43_q89 : (wd_up w_l q7 (.inl (cI, 10, .inl (upd f k (-1))))) q89 = some (.inl (cI, 480, .inl (fun _ => 0))) := (wd_up_ne _ _ (Ne.symm ne_q7_q89)).trans l_q89
    obtain ⟨w_a44, hW, g44_m, g44_q7, g44_q15, g44_q23, g44_q31, g44_q40, g44_q48, g44_q62, g44_q71, g44_q80, g44_q89⟩ : ∃ w', wd_P D vwCl (wd_A w sg.heap.size) w' H ∧ w' m = some (.inr (3, [.ref q7, .ref q15, .int 0, .ref q23, .ref q31, .ref q40, .ref q48, .int 0, .int 0, .int (-1), .ref q62, .int 0, .ref q71, .int 0, .ref q80, .int 0, .int 0, .ref q89])) ∧ w' q7 = some (.inl (cI, 10, .inl (upd f k (-1)))) ∧ w' q15 = some (.inl (cI, 12, .inl (fun _ => 0))) ∧ w' q23 = some (.inl (cI, 24, .inl (fun _ => 0))) ∧ w' q31 = some (.inl (cI, 24, .inl (fun _ => 0))) ∧ w' q40 = some (.inl (cI, 5760, .inl (fun _ => 0))) ∧ w' q48 = some (.inl (cI, 60, .inl (fun _ => 0))) ∧ w' q62 = some (.inl (cI, 240, .inl (fun _ => 0))) ∧ w' q71 = some (.inl (cI, 480, .inl (fun _ => 0))) ∧ w' q80 = some (.inl (cI, 480, .inl (fun _ => 0))) ∧ w' q89 = some (.inl (cI, 480, .inl (fun _ => 0))) := ⟨_, hW, f43_m, f43_q7, f43_q15, f43_q23, f43_q31, f43_q40, f43_q48, f43_q62, f43_q71, f43_q80, f43_q89⟩
    refine lv_iinc (v := nI (k + 1)) (lv' := [(1, .int (nI (k + 1))), (0, .ref m)]) hx hb dX3_init_109 hl (k := 1) rfl (nI_add k 1) (by decide) rfl (fun ls hl => ?_)
    refine lv_goto (tgt := 96) hx hb dX3_init_112 (by decide) ?_
    exact ih_96 (k + 1) (upd f k (-1)) H locs ls ⟨by omega, lt_s (fun j hj => by rw [pk_un (by omega)]; exact hall j hj) pk_us, ⟨_, hW, g44_m, g44_q7, g44_q15, g44_q23, g44_q31, g44_q40, g44_q48, g44_q62, g44_q71, g44_q80, g44_q89⟩, hS, (lv_sub hl [1, 0] rfl)⟩ (by omega)
