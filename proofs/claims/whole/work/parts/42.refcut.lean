set_option maxHeartbeats 4000000 in
set_option maxRecDepth 100000 in
theorem k_X3_cut (l : Launch) (D : va_G) (cI cT : ClassId) (w : Wd) (sz : Nat) (m : Nat) (cd : Int32) (pl : Int32) (df : List Int32) (tx : Nat → Option Nat) (kp : List Nat) (rs : Rws) (t : Int32) (u : Int32) (i : Int32) (n : Int32) (hwf : WF (cd, pl, df, tx, kp, rs)) (hI : InvR cI m (cd, pl, df, tx, kp, rs) w) : wd_Mi l D vwCl (gK D cI cT) yX3_cut wsX3_cut (wd_rm 3 0 0) [.ref m, .int t, .int u, .int i, .int n] w sz (fun r w' => r = (s_cut (cd, pl, df, tx, kp, rs) t u i n).1 ∧ InvR cI m (s_cut (cd, pl, df, tx, kp, rs) t u i n).2 w') := by
  refine wd_met (cc := cX3_cut) (maxL := 6) (ret := (some .int)) (by decide) rfl (Nat.le_of_ble_eq_true rfl) ?_
  intro pg ev sg mi bl mt cde ls C0 hsz hK hW hl
  obtain ⟨hx, hb, hr, hml, hown, hts, hlocks, hnm⟩ := C0
  subst hsz
  have hown : sg.vm.findClass RX3 = some mi.cls := hown
  have hS : va_S (wd_A w sg.heap.size) sg.heap sg.heap [] := va_S.rf
  have hA : ∀ q, sg.heap.size ≤ q → wd_A w sg.heap.size q := fun q h => Or.inr h
  have hl : lv_has ls 6 [(0, .ref m), (1, .int t), (2, .int u), (3, .int i), (4, .int n)] := hl
  obtain ⟨A, fI, XD, XP, XU, XO, XB, hR, hdf, hit⟩ := hI
  dsimp only at hR hdf hit
  have h10 : ∀ t, 10 ≤ t → tx t = none := hwf.2.1
  have hkp : kp.length ≤ 12 := hwf.2.2.1
  have hlv : ∀ t r, tx t = some r → r < 24 := fun t r h => (hwf.2.2.2.1 r (Or.inl ⟨t, h⟩)).1
  have hok : ∀ t r, tx t = some r → rOK (rs r) := fun t r h => (hwf.2.2.2.1 r (Or.inl ⟨t, h⟩)).2
  have hk24 : ∀ r ∈ kp, r < 24 := fun r h => (hwf.2.2.2.1 r (Or.inr h)).1
  have hdl : df.length = XD.2 := by rw [← hdf, rl_len]
  have hd60 : df.length ≤ 60 := hwf.1.1
  refine lv_iload_n hx hb dX3_cut_0 rfl (lv_at hl 1 rfl) ?_
  refine wd_callSi (As := [.int t]) (rest := []) (c2 := 0) (s2 := 0) ⟨hx, hb, hml, hown, hts⟩ (k_X3_isText l D cI cT w sg.heap.size t ) (va_cwS 1 hts gX3_cut_X3_isText rfl rfl rfl (by decide +kernel) ⟨Nat.le_of_ble_eq_true rfl, Nat.le_of_ble_eq_true rfl⟩) gK_ok hK hW hS hA rfl hl.1 rfl (Nat.le_of_ble_eq_true rfl) dX3_cut_1 ⟨Nat.le_of_ble_eq_true rfl, Nat.le_of_ble_eq_true rfl⟩ rfl rfl (fun r_1 w_1 H locs hp_1 hW hz hS => ?_)
  obtain ⟨q_r, q_w⟩ := hp_1
  subst r_1
  subst w_1
  refine lv_if_eq (tgt := 14) hx hb dX3_cut_4 (by decide) (fun c_4 => ?_) (fun c_4 => ?_)
  ·
    have c_4 := nt_of (j_b0 c_4)
    refine lv_ldc (v := (-2000000001)) hx hb hown (hts (.constant RX3 107 (-2000000001)) (by decide +kernel)) dX3_cut_14 ?_
    refine wd_iret hx hb hr hlocks hW hS dX3_cut_16 ?_
    have e9 : s_cut (cd, pl, df, tx, kp, rs) t u i n = ((-2000000001), cd, pl, df, tx, kp, rs) := by simp only [s_cut, if_pos (Or.inl c_4), s_w1, s_no, s_mk]
    show _ = (s_cut (cd, pl, df, tx, kp, rs) t u i n).1 ∧ InvR cI m (s_cut (cd, pl, df, tx, kp, rs) t u i n).2 _
    rw [e9]
    exact ⟨rfl, A, fI, XD, XP, XU, XO, XB, hR, hdf, hit⟩
  ·
    have c_4 := j_bn c_4
    obtain ⟨tN, htN, htE⟩ := nt_spec c_4
    subst htE
    have hcl_t : (nI tN).toNatClampNeg = tN := nI_clamp (by omega)
    refine lv_iload_n hx hb dX3_cut_7 rfl (lv_at hl 2 rfl) ?_
    refine wd_callSi (As := [.int u]) (rest := []) (c2 := 0) (s2 := 0) ⟨hx, hb, hml, hown, hts⟩ (k_X3_isText l D cI cT w H.size u ) (va_cwS 1 hts gX3_cut_X3_isText rfl rfl rfl (by decide +kernel) ⟨Nat.le_of_ble_eq_true rfl, Nat.le_of_ble_eq_true rfl⟩) gK_ok hK hW hS hA rfl hl.1 rfl (Nat.le_of_ble_eq_true rfl) dX3_cut_8 ⟨Nat.le_of_ble_eq_true rfl, Nat.le_of_ble_eq_true rfl⟩ rfl rfl (fun r_8 w_8 H locs hp_8 hW hz hS => ?_)
    obtain ⟨q_r, q_w⟩ := hp_8
    subst r_8
    subst w_8
    refine lv_if_ne (tgt := 17) hx hb dX3_cut_11 (by decide) (fun c_11 => ?_) (fun c_11 => ?_)
    ·
      have c_11 := j_bn c_11
      obtain ⟨uN, huN, huE⟩ := nt_spec c_11
      subst huE
      have hcl_u : (nI uN).toNatClampNeg = uN := nI_clamp (by omega)
      refine lv_aload_n hx hb dX3_cut_17 rfl (lv_at hl 0 rfl) ?_
      refine lv_iload_n hx hb dX3_cut_18 rfl (lv_at hl 2 rfl) ?_
      refine wd_callVi (As := [.int (nI uN)]) (rest := []) (c2 := 0) (s2 := 0) ⟨hx, hb, hml, hown, hts⟩ (k_X3_sortOf l D cI cT w H.size m A (kI kp) (fun r => nI (rs r).2.length) fI kp.length cd pl XD XP XU XO XB tx rs uN hR (by omega) hlv) (cwV 1 hts gX3_cut_X3_sortOf rfl rfl rfl (by decide +kernel) ⟨Nat.le_of_ble_eq_true rfl, Nat.le_of_ble_eq_true rfl⟩) gK_ok hK hW (wd_recv (ci := 3) hK.1 hW rfl hR.1) hS hA rfl hl.1 rfl (Nat.le_of_ble_eq_true rfl) dX3_cut_19 ⟨Nat.le_of_ble_eq_true rfl, Nat.le_of_ble_eq_true rfl⟩ rfl rfl (fun r_19 w_19 H locs hp_19 hW hz hS => ?_)
      obtain ⟨q_r, q_w⟩ := hp_19
      subst r_19
      subst w_19
      cases htx_19 : tx uN with
      | none =>
        refine wd_topE (y := -1) rfl ?_
        refine lv_iconst (v := (-1)) hx hb dX3_cut_22 (by decide) ?_
        refine lv_icmp_ne (tgt := 32) hx hb dX3_cut_23 (by decide) (fun c_23 => ?_) (fun c_23 => ?_)
        ·
          exact absurd rfl c_23
        ·
          refine lv_aload_n hx hb dX3_cut_26 rfl (lv_at hl 0 rfl) ?_
          refine lv_iconst (v := 1) hx hb dX3_cut_27 (by decide) ?_
          refine wd_callVi (As := [.int 1]) (rest := []) (c2 := 0) (s2 := 0) ⟨hx, hb, hml, hown, hts⟩ (k_X3_no l D cI cT w H.size m A (fun t => oI (tx t)) (kI kp) (fun r => (rs r).1) (fun r => nI (rs r).2.length) fI kp.length cd pl XD XP XU XO XB 1 hR) (cwV 1 hts gX3_cut_X3_no rfl rfl rfl (by decide +kernel) ⟨Nat.le_of_ble_eq_true rfl, Nat.le_of_ble_eq_true rfl⟩) gK_ok hK hW (wd_recv (ci := 3) hK.1 hW rfl hR.1) hS hA rfl hl.1 rfl (Nat.le_of_ble_eq_true rfl) dX3_cut_28 ⟨Nat.le_of_ble_eq_true rfl, Nat.le_of_ble_eq_true rfl⟩ rfl rfl (fun r_28 w_28 H locs hp_28 hW hz hS => ?_)
          obtain ⟨q_r, hR⟩ := hp_28
          subst r_28
          refine wd_iret hx hb hr hlocks hW hS dX3_cut_31 ?_
          have e9 : s_cut (cd, pl, df, tx, kp, rs) (nI tN) (nI uN) i n = (0, 1, pl, df, tx, kp, rs) := by simp only [s_cut, if_neg (not_or.mpr ⟨c_4, c_11⟩), s_w1, s_no, s_mk, hcl_t, hcl_u, htx_19]
          show _ = (s_cut (cd, pl, df, tx, kp, rs) (nI tN) (nI uN) i n).1 ∧ InvR cI m (s_cut (cd, pl, df, tx, kp, rs) (nI tN) (nI uN) i n).2 _
          rw [e9]
          exact ⟨rfl, A, fI, XD, XP, XU, XO, XB, hR, hdf, hit⟩
      | some r_19 =>
        refine wd_topE (y := (rs r_19).1) rfl ?_
        have hr24_19 := hlv _ _ htx_19
        refine lv_iconst (v := (-1)) hx hb dX3_cut_22 (by decide) ?_
        refine lv_icmp_ne (tgt := 32) hx hb dX3_cut_23 (by decide) (fun c_23 => ?_) (fun c_23 => ?_)
        ·
          have hlen := (hok _ _ htx_19).len
          refine lv_iload hx hb dX3_cut_32 (lv_at hl 4 rfl) ?_
          refine lv_if_ge (tgt := 43) hx hb dX3_cut_34 (by decide) (fun c_34 => ?_) (fun c_34 => ?_)
          ·
            simp only [i_le, Decidable.not_not] at c_34
            obtain ⟨nN, hnN, hnE⟩ := nI_of c_34
            subst hnE
            have hcl_n : (nI nN).toNatClampNeg = nN := nI_clamp (by omega)
            refine lv_iload_n hx hb dX3_cut_43 rfl (lv_at hl 3 rfl) ?_
            refine lv_if_lt (tgt := 63) hx hb dX3_cut_44 (by decide) (fun c_44 => ?_) (fun c_44 => ?_)
            ·
              refine lv_aload_n hx hb dX3_cut_63 rfl (lv_at hl 0 rfl) ?_
              refine lv_iconst (v := 3) hx hb dX3_cut_64 (by decide) ?_
              refine wd_callVi (As := [.int 3]) (rest := []) (c2 := 0) (s2 := 0) ⟨hx, hb, hml, hown, hts⟩ (k_X3_no l D cI cT w H.size m A (fun t => oI (tx t)) (kI kp) (fun r => (rs r).1) (fun r => nI (rs r).2.length) fI kp.length cd pl XD XP XU XO XB 3 hR) (cwV 1 hts gX3_cut_X3_no rfl rfl rfl (by decide +kernel) ⟨Nat.le_of_ble_eq_true rfl, Nat.le_of_ble_eq_true rfl⟩) gK_ok hK hW (wd_recv (ci := 3) hK.1 hW rfl hR.1) hS hA rfl hl.1 rfl (Nat.le_of_ble_eq_true rfl) dX3_cut_65 ⟨Nat.le_of_ble_eq_true rfl, Nat.le_of_ble_eq_true rfl⟩ rfl rfl (fun r_65 w_65 H locs hp_65 hW hz hS => ?_)
              obtain ⟨q_r, hR⟩ := hp_65
              subst r_65
              refine wd_iret hx hb hr hlocks hW hS dX3_cut_68 ?_
              have e9 : s_cut (cd, pl, df, tx, kp, rs) (nI tN) (nI uN) i (nI nN) = (0, 3, pl, df, tx, kp, rs) := by simp only [s_cut, if_neg (not_or.mpr ⟨c_4, c_11⟩), s_w1, s_no, s_mk, if_neg c_34, if_pos (bey_i c_44), hcl_t, hcl_u, hcl_n, htx_19]
              show _ = (s_cut (cd, pl, df, tx, kp, rs) (nI tN) (nI uN) i (nI nN)).1 ∧ InvR cI m (s_cut (cd, pl, df, tx, kp, rs) (nI tN) (nI uN) i (nI nN)).2 _
              rw [e9]
              exact ⟨rfl, A, fI, XD, XP, XU, XO, XB, hR, hdf, hit⟩
            ·
              obtain ⟨iN, hiN, hiE⟩ := nI_of c_44
              subst hiE
              have hcl_i : (nI iN).toNatClampNeg = iN := nI_clamp (by omega)
              refine lv_iload_n hx hb dX3_cut_47 rfl (lv_at hl 3 rfl) ?_
              refine lv_i2l (v := lN iN) hx hb dX3_cut_48 (nI_l (by omega)) ?_
              refine lv_iload hx hb dX3_cut_49 (lv_at hl 4 rfl) ?_
              refine lv_i2l (v := lN nN) hx hb dX3_cut_51 (nI_l (by omega)) ?_
              refine lv_ladd hx hb dX3_cut_52 ?_
              rw [lN_add]
              refine lv_aload_n hx hb dX3_cut_53 rfl (lv_at hl 0 rfl) ?_
              refine lv_iload_n hx hb dX3_cut_54 rfl (lv_at hl 2 rfl) ?_
              refine wd_callVi (As := [.int (nI uN)]) (rest := [.long (lN (iN + nN))]) (c2 := 0) (s2 := 0) ⟨hx, hb, hml, hown, hts⟩ (k_X3_manyOf l D cI cT w H.size m A (kI kp) (fun r => (rs r).1) fI kp.length cd pl XD XP XU XO XB tx rs uN r_19 hR (by omega) htx_19 hr24_19) (cwV 1 hts gX3_cut_X3_manyOf rfl rfl rfl (by decide +kernel) ⟨Nat.le_of_ble_eq_true rfl, Nat.le_of_ble_eq_true rfl⟩) gK_ok hK hW (wd_recv (ci := 3) hK.1 hW rfl hR.1) hS hA rfl hl.1 rfl (Nat.le_of_ble_eq_true rfl) dX3_cut_55 ⟨Nat.le_of_ble_eq_true rfl, Nat.le_of_ble_eq_true rfl⟩ rfl rfl (fun r_55 w_55 H locs hp_55 hW hz hS => ?_)
              obtain ⟨q_r, q_w⟩ := hp_55
              subst r_55
              subst w_55
              refine lv_i2l (v := lN ((rs r_19).2.length)) hx hb dX3_cut_58 (nI_l (by omega)) ?_
              refine W.lcmp hx hb dX3_cut_59 ?_
              refine lv_if_le (tgt := 69) hx hb dX3_cut_60 (by decide) (fun c_60 => ?_) (fun c_60 => ?_)
              ·
                simp only [i_le, Decidable.not_not] at c_60
                have c_60 : ¬ (rs r_19).2.length < iN + nN := fun q => c_60 ((lc (by omega) (by omega)).mpr q)
                refine lv_iload hx hb dX3_cut_69 (lv_at hl 4 rfl) ?_
                refine lv_if_le (tgt := 102) hx hb dX3_cut_71 (by decide) (fun c_71 => ?_) (fun c_71 => ?_)
                ·
                  have c_71 : nN ≤ 0 := (nI_leI (by omega) (by omega)).mp (show (nI nN ≤ nI 0) from c_71)
                  refine lv_iconst (v := 0) hx hb dX3_cut_102 (by decide) ?_
                  refine lv_istore (lv' := [(5, .int 0), (0, .ref m), (1, .int (nI tN)), (2, .int (nI uN)), (3, .int (nI iN)), (4, .int (nI nN))]) hx hb dX3_cut_103 hl (by decide) rfl (fun ls hl => ?_)
                  refine wd_loop1 (fun (k : Nat) (H : Heap) (locs : List Loc) (ls : Array Slot) => (k ≤ nN) ∧ (∃ w', wd_P D vwCl (wd_A w sg.heap.size) w' H ∧ rW cI m A (fun t => oI (tx t)) (kI kp) (fun r => (rs r).1) (fun r => nI (rs r).2.length) fI kp.length cd pl XD XP XU (itN (fun j f => upd f j (lf (rs r_19).2 (iN + j))) k XO.1, XO.2) XB w') ∧ va_S (wd_A w sg.heap.size) sg.heap H locs ∧ lv_has ls 6 [(0, .ref m), (1, .int (nI tN)), (2, .int (nI uN)), (3, .int (nI iN)), (4, .int (nI nN)), (5, .int (nI k))]) (fun (k : Nat) => nN - k) 0 ⟨(by omega), ⟨_, hW, hR⟩, hS, (lv_sub hl [1, 2, 3, 4, 5, 0] rfl)⟩ (fun k H locs ls hI ih_105 => ?_)
                  obtain ⟨hk, ⟨w_l105, hW, hR⟩, hS, hl⟩ := hI
                  refine lv_iload hx hb dX3_cut_105 (lv_at hl 5 rfl) ?_
                  refine lv_iload hx hb dX3_cut_107 (lv_at hl 4 rfl) ?_
                  refine lv_icmp_ge (tgt := 134) hx hb dX3_cut_109 (by decide) (fun c_109 => ?_) (fun c_109 => ?_)
                  ·
                    have c_109 : nN ≤ k := (nI_leI (by omega) (by omega)).mp (show (nI nN ≤ nI k) from c_109)
                    refine lv_aload_n hx hb dX3_cut_134 rfl (lv_at hl 0 rfl) ?_
                    refine lv_iload_n hx hb dX3_cut_135 rfl (lv_at hl 1 rfl) ?_
                    refine lv_aload_n hx hb dX3_cut_136 rfl (lv_at hl 0 rfl) ?_
                    refine lv_iload_n hx hb dX3_cut_137 rfl (lv_at hl 2 rfl) ?_
                    refine wd_callVi (As := [.int (nI uN)]) (rest := [.int (nI tN), .ref m]) (c2 := 0) (s2 := 0) ⟨hx, hb, hml, hown, hts⟩ (k_X3_sortOf l D cI cT w_l105 H.size m A (kI kp) (fun r => nI (rs r).2.length) fI kp.length cd pl XD XP XU (itN (fun j f => upd f j (lf (rs r_19).2 (iN + j))) k XO.1, XO.2) XB tx rs uN hR (by omega) hlv) (cwV 1 hts gX3_cut_X3_sortOf rfl rfl rfl (by decide +kernel) ⟨Nat.le_of_ble_eq_true rfl, Nat.le_of_ble_eq_true rfl⟩) gK_ok hK hW (wd_recv (ci := 3) hK.1 hW rfl hR.1) hS hA rfl hl.1 rfl (Nat.le_of_ble_eq_true rfl) dX3_cut_138 ⟨Nat.le_of_ble_eq_true rfl, Nat.le_of_ble_eq_true rfl⟩ rfl rfl (fun r_138 w_138 H locs hp_138 hW hz hS => ?_)
                    obtain ⟨q_r, q_w⟩ := hp_138
                    subst r_138
                    subst w_138
                    refine wd_topE (y := (rs r_19).1) (by rw [htx_19]; rfl) ?_
                    refine lv_aload_n hx hb dX3_cut_141 rfl (lv_at hl 0 rfl) ?_
                    refine wd_get (ci := 3) (v := .ref (A 8)) (C := RX3) (T := TX3) (N := 18) hx hb hts (by decide +kernel) hown hK.1 hW hR.1 rfl 14 (by decide) (hts (.fieldLink RX3 38 "CharRowsModel" "others" "[I") (by decide +kernel)) (fun _ h9 => h9) rfl dX3_cut_142 ?_
                    refine lv_iload hx hb dX3_cut_145 (lv_at hl 4 rfl) ?_
                    refine wd_callVi (As := [.int (nI tN), .int ((rs r_19).1), .ref (A 8), .int (nI nN)]) (rest := []) (c2 := 0) (s2 := 0) ⟨hx, hb, hml, hown, hts⟩ (k_X3_become8 l D cI cT w_l105 H.size m A fI cd pl XD XP XU (itN (fun j f => upd f j (lf (rs r_19).2 (iN + j))) k XO.1, XO.2) XB tx kp rs tN ((rs r_19).1) nN hR (by omega) h10 hkp hlv hk24 hit (by omega)) (cwV 4 hts gX3_cut_X3_become rfl rfl rfl (by decide +kernel) ⟨Nat.le_of_ble_eq_true rfl, Nat.le_of_ble_eq_true rfl⟩) gK_ok hK hW (wd_recv (ci := 3) hK.1 hW rfl hR.1) hS hA rfl hl.1 rfl (Nat.le_of_ble_eq_true rfl) dX3_cut_147 ⟨Nat.le_of_ble_eq_true rfl, Nat.le_of_ble_eq_true rfl⟩ rfl rfl (fun r_147 w_147 H locs hp_147 hW hz hS => ?_)
                    obtain ⟨q_r, f_147, hit_147, hR⟩ := hp_147
                    subst r_147
                    refine wd_iret hx hb hr hlocks hW hS dX3_cut_150 ?_
                    have e9 : s_cut (cd, pl, df, tx, kp, rs) (nI tN) (nI uN) (nI iN) (nI nN) = (nI nN, 0, pl, df, (va_up tx tN (some (u_free tx kp))), kp, (va_up rs (u_free tx kp) ((rs r_19).1, (rl ((itN (fun j f => upd f j (lf (rs r_19).2 (iN + j))) k XO.1, XO.2).1, nN))))) := by simp only [s_cut, if_neg (not_or.mpr ⟨c_4, c_11⟩), s_w1, s_no, s_mk, if_neg c_34, if_neg (bey_no (len := (rs r_19).2.length) (i := iN) (n := nN) (by omega) (by omega) (by omega)), if_neg (show ¬ (0 < nI nN ∧ (rs r_19).1 = 0 ∧ (u_ins (rs r_19).2 iN ∨ u_ins (rs r_19).2 (iN + nN))) from fun q => absurd ((nI_ltI (a := 0) (b := nN) (by omega) (by omega)).mp q.1) (by omega)), hcl_t, hcl_u, hcl_n, hcl_i, htx_19]; rw [show (rl ((itN (fun j f => upd f j (lf (rs r_19).2 (iN + j))) k XO.1, XO.2).1, nN)) = ((rs r_19).2.drop iN).take nN from by rw [show k = nN by omega]; exact rl_layD (by omega), List.length_take, List.length_drop, Nat.min_eq_left (by omega)]; first | done | rfl
                    show _ = (s_cut (cd, pl, df, tx, kp, rs) (nI tN) (nI uN) (nI iN) (nI nN)).1 ∧ InvR cI m (s_cut (cd, pl, df, tx, kp, rs) (nI tN) (nI uN) (nI iN) (nI nN)).2 _
                    rw [e9]
                    exact ⟨rfl, A, f_147, XD, XP, XU, (itN (fun j f => upd f j (lf (rs r_19).2 (iN + j))) k XO.1, XO.2), XB, hR, hdf, hit_147⟩
                  ·
                    have c_109 : ¬ (nN ≤ k) := fun q9 => absurd ((nI_leI (by omega) (by omega)).mpr q9) (show ¬ (nI nN ≤ nI k) from c_109)
                    refine lv_aload_n hx hb dX3_cut_112 rfl (lv_at hl 0 rfl) ?_
                    refine wd_get (ci := 3) (v := .ref (A 8)) (C := RX3) (T := TX3) (N := 18) hx hb hts (by decide +kernel) hown hK.1 hW hR.1 rfl 14 (by decide) (hts (.fieldLink RX3 38 "CharRowsModel" "others" "[I") (by decide +kernel)) (fun _ h9 => h9) rfl dX3_cut_113 ?_
                    refine lv_iload hx hb dX3_cut_116 (lv_at hl 5 rfl) ?_
                    refine lv_aload_n hx hb dX3_cut_118 rfl (lv_at hl 0 rfl) ?_
                    refine lv_iload_n hx hb dX3_cut_119 rfl (lv_at hl 2 rfl) ?_
                    refine lv_iload_n hx hb dX3_cut_120 rfl (lv_at hl 3 rfl) ?_
                    refine lv_iload hx hb dX3_cut_121 (lv_at hl 5 rfl) ?_
                    refine lv_iadd hx hb dX3_cut_123 ?_
                    refine wd_topE (y := nI (iN + k)) (nI_add _ _) ?_
                    refine wd_callVi (As := [.int (nI uN), .int (nI (iN + k))]) (rest := [.int (nI k), .ref (A 8)]) (c2 := 0) (s2 := 0) ⟨hx, hb, hml, hown, hts⟩ (k_X3_item l D cI cT w_l105 H.size m A (kI kp) (fun r => (rs r).1) (fun r => nI (rs r).2.length) fI kp.length cd pl XD XP XU (itN (fun j f => upd f j (lf (rs r_19).2 (iN + j))) k XO.1, XO.2) XB tx rs uN r_19 (iN + k) hR (by omega) htx_19 hr24_19 hit (by omega)) (cwV 2 hts gX3_cut_X3_item rfl rfl rfl (by decide +kernel) ⟨Nat.le_of_ble_eq_true rfl, Nat.le_of_ble_eq_true rfl⟩) gK_ok hK hW (wd_recv (ci := 3) hK.1 hW rfl hR.1) hS hA rfl hl.1 rfl (Nat.le_of_ble_eq_true rfl) dX3_cut_124 ⟨Nat.le_of_ble_eq_true rfl, Nat.le_of_ble_eq_true rfl⟩ rfl rfl (fun r_124 w_124 H locs hp_124 hW hz hS => ?_)
                    obtain ⟨q_r, q_w⟩ := hp_124
                    subst r_124
                    subst w_124
                    refine wd_iast hx hb hK.1 hW hS 0 hR.2.2.2.2.2.2.2.2.2.1 rfl (vp_in_nI (by omega) (by omega)) dX3_cut_127 (fun H locs hW hS => ?_)
                    rw [nI_clamp (by omega)] at hW
                    obtain ⟨w_v1, hW, hR⟩ : ∃ w', wd_P D vwCl (wd_A w sg.heap.size) w' H ∧ rW cI m A (fun t => oI (tx t)) (kI kp) (fun r => (rs r).1) (fun r => nI (rs r).2.length) fI kp.length cd pl XD XP XU ((upd (itN (fun j f => upd f j (lf (rs r_19).2 (iN + j))) k XO.1) k (lf (rs r_19).2 (iN + k))), XO.2) XB w' := ⟨_, hW, hR.aXO (upd (itN (fun j f => upd f j (lf (rs r_19).2 (iN + j))) k XO.1) k (lf (rs r_19).2 (iN + k)))⟩
                    refine lv_iinc (v := nI (k + 1)) (lv' := [(5, .int (nI (k + 1))), (0, .ref m), (1, .int (nI tN)), (2, .int (nI uN)), (3, .int (nI iN)), (4, .int (nI nN))]) hx hb dX3_cut_128 hl (k := 5) rfl (nI_add k 1) (by decide) rfl (fun ls hl => ?_)
                    refine lv_goto (tgt := 105) hx hb dX3_cut_131 (by decide) ?_
                    exact ih_105 (k + 1) H locs ls ⟨(by omega), ⟨_, hW, hR⟩, hS, (lv_sub hl [1, 2, 3, 4, 5, 0] rfl)⟩ (by omega)
                ·
                  have c_71 : ¬ (nN ≤ 0) := fun q9 => absurd ((nI_leI (by omega) (by omega)).mpr q9) (show ¬ (nI nN ≤ nI 0) from c_71)
                  refine lv_aload_n hx hb dX3_cut_74 rfl (lv_at hl 0 rfl) ?_
                  refine lv_iload_n hx hb dX3_cut_75 rfl (lv_at hl 2 rfl) ?_
                  refine lv_iload_n hx hb dX3_cut_76 rfl (lv_at hl 3 rfl) ?_
                  refine wd_callVi (As := [.int (nI uN), .int (nI iN)]) (rest := []) (c2 := 0) (s2 := 0) ⟨hx, hb, hml, hown, hts⟩ (k_X3_parts l D cI cT w H.size m A (kI kp) fI kp.length cd pl XD XP XU XO XB tx rs uN r_19 iN hR (by omega) htx_19 hr24_19 hlv hit (by omega)) (cwV 2 hts gX3_cut_X3_parts rfl rfl rfl (by decide +kernel) ⟨Nat.le_of_ble_eq_true rfl, Nat.le_of_ble_eq_true rfl⟩) gK_ok hK hW (wd_recv (ci := 3) hK.1 hW rfl hR.1) hS hA rfl hl.1 rfl (Nat.le_of_ble_eq_true rfl) dX3_cut_77 ⟨Nat.le_of_ble_eq_true rfl, Nat.le_of_ble_eq_true rfl⟩ rfl rfl (fun r_77 w_77 H locs hp_77 hW hz hS => ?_)
                  obtain ⟨q_r, q_w⟩ := hp_77
                  subst r_77
                  subst w_77
                  refine lv_if_ne (tgt := 95) hx hb dX3_cut_80 (by decide) (fun c_80 => ?_) (fun c_80 => ?_)
                  ·
                    have c_80 := j_bn c_80
                    refine lv_aload_n hx hb dX3_cut_95 rfl (lv_at hl 0 rfl) ?_
                    refine lv_bipush (v := 7) hx hb dX3_cut_96 (by decide) ?_
                    refine wd_callVi (As := [.int 7]) (rest := []) (c2 := 0) (s2 := 0) ⟨hx, hb, hml, hown, hts⟩ (k_X3_no l D cI cT w H.size m A (fun t => oI (tx t)) (kI kp) (fun r => (rs r).1) (fun r => nI (rs r).2.length) fI kp.length cd pl XD XP XU XO XB 7 hR) (cwV 1 hts gX3_cut_X3_no rfl rfl rfl (by decide +kernel) ⟨Nat.le_of_ble_eq_true rfl, Nat.le_of_ble_eq_true rfl⟩) gK_ok hK hW (wd_recv (ci := 3) hK.1 hW rfl hR.1) hS hA rfl hl.1 rfl (Nat.le_of_ble_eq_true rfl) dX3_cut_98 ⟨Nat.le_of_ble_eq_true rfl, Nat.le_of_ble_eq_true rfl⟩ rfl rfl (fun r_98 w_98 H locs hp_98 hW hz hS => ?_)
                    obtain ⟨q_r, hR⟩ := hp_98
                    subst r_98
                    refine wd_iret hx hb hr hlocks hW hS dX3_cut_101 ?_
                    have e9 : s_cut (cd, pl, df, tx, kp, rs) (nI tN) (nI uN) (nI iN) (nI nN) = (0, 7, pl, df, tx, kp, rs) := by simp only [s_cut, if_neg (not_or.mpr ⟨c_4, c_11⟩), s_w1, s_no, s_mk, if_neg c_34, if_neg (bey_no (len := (rs r_19).2.length) (i := iN) (n := nN) (by omega) (by omega) (by omega)), if_pos (show 0 < nI nN ∧ (rs r_19).1 = 0 ∧ (u_ins (rs r_19).2 iN ∨ u_ins (rs r_19).2 (iN + nN)) from ⟨nI_lt (a := 0) (b := nN) (by omega) (by omega), c_80.1, Or.inl c_80.2⟩), hcl_t, hcl_u, hcl_n, hcl_i, htx_19]
                    show _ = (s_cut (cd, pl, df, tx, kp, rs) (nI tN) (nI uN) (nI iN) (nI nN)).1 ∧ InvR cI m (s_cut (cd, pl, df, tx, kp, rs) (nI tN) (nI uN) (nI iN) (nI nN)).2 _
                    rw [e9]
                    exact ⟨rfl, A, fI, XD, XP, XU, XO, XB, hR, hdf, hit⟩
                  ·
                    have c_80 := j_b0 c_80
                    refine lv_aload_n hx hb dX3_cut_83 rfl (lv_at hl 0 rfl) ?_
                    refine lv_iload_n hx hb dX3_cut_84 rfl (lv_at hl 2 rfl) ?_
                    refine lv_iload_n hx hb dX3_cut_85 rfl (lv_at hl 3 rfl) ?_
                    refine lv_iload hx hb dX3_cut_86 (lv_at hl 4 rfl) ?_
                    refine lv_iadd hx hb dX3_cut_88 ?_
                    refine wd_topE (y := nI (iN + nN)) (nI_add _ _) ?_
                    refine wd_callVi (As := [.int (nI uN), .int (nI (iN + nN))]) (rest := []) (c2 := 0) (s2 := 0) ⟨hx, hb, hml, hown, hts⟩ (k_X3_parts l D cI cT w H.size m A (kI kp) fI kp.length cd pl XD XP XU XO XB tx rs uN r_19 (iN + nN) hR (by omega) htx_19 hr24_19 hlv hit (by omega)) (cwV 2 hts gX3_cut_X3_parts rfl rfl rfl (by decide +kernel) ⟨Nat.le_of_ble_eq_true rfl, Nat.le_of_ble_eq_true rfl⟩) gK_ok hK hW (wd_recv (ci := 3) hK.1 hW rfl hR.1) hS hA rfl hl.1 rfl (Nat.le_of_ble_eq_true rfl) dX3_cut_89 ⟨Nat.le_of_ble_eq_true rfl, Nat.le_of_ble_eq_true rfl⟩ rfl rfl (fun r_89 w_89 H locs hp_89 hW hz hS => ?_)
                    obtain ⟨q_r, q_w⟩ := hp_89
                    subst r_89
                    subst w_89
                    refine lv_if_eq (tgt := 102) hx hb dX3_cut_92 (by decide) (fun c_92 => ?_) (fun c_92 => ?_)
                    ·
                      have c_92 := j_b0 c_92
                      refine lv_iconst (v := 0) hx hb dX3_cut_102 (by decide) ?_
                      refine lv_istore (lv' := [(5, .int 0), (0, .ref m), (1, .int (nI tN)), (2, .int (nI uN)), (3, .int (nI iN)), (4, .int (nI nN))]) hx hb dX3_cut_103 hl (by decide) rfl (fun ls hl => ?_)
                      refine wd_loop1 (fun (k : Nat) (H : Heap) (locs : List Loc) (ls : Array Slot) => (k ≤ nN) ∧ (∃ w', wd_P D vwCl (wd_A w sg.heap.size) w' H ∧ rW cI m A (fun t => oI (tx t)) (kI kp) (fun r => (rs r).1) (fun r => nI (rs r).2.length) fI kp.length cd pl XD XP XU (itN (fun j f => upd f j (lf (rs r_19).2 (iN + j))) k XO.1, XO.2) XB w') ∧ va_S (wd_A w sg.heap.size) sg.heap H locs ∧ lv_has ls 6 [(0, .ref m), (1, .int (nI tN)), (2, .int (nI uN)), (3, .int (nI iN)), (4, .int (nI nN)), (5, .int (nI k))]) (fun (k : Nat) => nN - k) 0 ⟨(by omega), ⟨_, hW, hR⟩, hS, (lv_sub hl [1, 2, 3, 4, 5, 0] rfl)⟩ (fun k H locs ls hI ih_105 => ?_)
                      obtain ⟨hk, ⟨w_l105, hW, hR⟩, hS, hl⟩ := hI
                      refine lv_iload hx hb dX3_cut_105 (lv_at hl 5 rfl) ?_
                      refine lv_iload hx hb dX3_cut_107 (lv_at hl 4 rfl) ?_
                      refine lv_icmp_ge (tgt := 134) hx hb dX3_cut_109 (by decide) (fun c_109 => ?_) (fun c_109 => ?_)
                      ·
                        have c_109 : nN ≤ k := (nI_leI (by omega) (by omega)).mp (show (nI nN ≤ nI k) from c_109)
                        refine lv_aload_n hx hb dX3_cut_134 rfl (lv_at hl 0 rfl) ?_
                        refine lv_iload_n hx hb dX3_cut_135 rfl (lv_at hl 1 rfl) ?_
                        refine lv_aload_n hx hb dX3_cut_136 rfl (lv_at hl 0 rfl) ?_
                        refine lv_iload_n hx hb dX3_cut_137 rfl (lv_at hl 2 rfl) ?_
                        refine wd_callVi (As := [.int (nI uN)]) (rest := [.int (nI tN), .ref m]) (c2 := 0) (s2 := 0) ⟨hx, hb, hml, hown, hts⟩ (k_X3_sortOf l D cI cT w_l105 H.size m A (kI kp) (fun r => nI (rs r).2.length) fI kp.length cd pl XD XP XU (itN (fun j f => upd f j (lf (rs r_19).2 (iN + j))) k XO.1, XO.2) XB tx rs uN hR (by omega) hlv) (cwV 1 hts gX3_cut_X3_sortOf rfl rfl rfl (by decide +kernel) ⟨Nat.le_of_ble_eq_true rfl, Nat.le_of_ble_eq_true rfl⟩) gK_ok hK hW (wd_recv (ci := 3) hK.1 hW rfl hR.1) hS hA rfl hl.1 rfl (Nat.le_of_ble_eq_true rfl) dX3_cut_138 ⟨Nat.le_of_ble_eq_true rfl, Nat.le_of_ble_eq_true rfl⟩ rfl rfl (fun r_138 w_138 H locs hp_138 hW hz hS => ?_)
                        obtain ⟨q_r, q_w⟩ := hp_138
                        subst r_138
                        subst w_138
                        refine wd_topE (y := (rs r_19).1) (by rw [htx_19]; rfl) ?_
                        refine lv_aload_n hx hb dX3_cut_141 rfl (lv_at hl 0 rfl) ?_
                        refine wd_get (ci := 3) (v := .ref (A 8)) (C := RX3) (T := TX3) (N := 18) hx hb hts (by decide +kernel) hown hK.1 hW hR.1 rfl 14 (by decide) (hts (.fieldLink RX3 38 "CharRowsModel" "others" "[I") (by decide +kernel)) (fun _ h9 => h9) rfl dX3_cut_142 ?_
                        refine lv_iload hx hb dX3_cut_145 (lv_at hl 4 rfl) ?_
                        refine wd_callVi (As := [.int (nI tN), .int ((rs r_19).1), .ref (A 8), .int (nI nN)]) (rest := []) (c2 := 0) (s2 := 0) ⟨hx, hb, hml, hown, hts⟩ (k_X3_become8 l D cI cT w_l105 H.size m A fI cd pl XD XP XU (itN (fun j f => upd f j (lf (rs r_19).2 (iN + j))) k XO.1, XO.2) XB tx kp rs tN ((rs r_19).1) nN hR (by omega) h10 hkp hlv hk24 hit (by omega)) (cwV 4 hts gX3_cut_X3_become rfl rfl rfl (by decide +kernel) ⟨Nat.le_of_ble_eq_true rfl, Nat.le_of_ble_eq_true rfl⟩) gK_ok hK hW (wd_recv (ci := 3) hK.1 hW rfl hR.1) hS hA rfl hl.1 rfl (Nat.le_of_ble_eq_true rfl) dX3_cut_147 ⟨Nat.le_of_ble_eq_true rfl, Nat.le_of_ble_eq_true rfl⟩ rfl rfl (fun r_147 w_147 H locs hp_147 hW hz hS => ?_)
                        obtain ⟨q_r, f_147, hit_147, hR⟩ := hp_147
                        subst r_147
                        refine wd_iret hx hb hr hlocks hW hS dX3_cut_150 ?_
                        have e9 : s_cut (cd, pl, df, tx, kp, rs) (nI tN) (nI uN) (nI iN) (nI nN) = (nI nN, 0, pl, df, (va_up tx tN (some (u_free tx kp))), kp, (va_up rs (u_free tx kp) ((rs r_19).1, (rl ((itN (fun j f => upd f j (lf (rs r_19).2 (iN + j))) k XO.1, XO.2).1, nN))))) := by simp only [s_cut, if_neg (not_or.mpr ⟨c_4, c_11⟩), s_w1, s_no, s_mk, if_neg c_34, if_neg (bey_no (len := (rs r_19).2.length) (i := iN) (n := nN) (by omega) (by omega) (by omega)), if_neg (show ¬ (0 < nI nN ∧ (rs r_19).1 = 0 ∧ (u_ins (rs r_19).2 iN ∨ u_ins (rs r_19).2 (iN + nN))) from fun q => q.2.2.elim (fun z => c_80 ⟨q.2.1, z⟩) (fun z => c_92 ⟨q.2.1, z⟩)), hcl_t, hcl_u, hcl_n, hcl_i, htx_19]; rw [show (rl ((itN (fun j f => upd f j (lf (rs r_19).2 (iN + j))) k XO.1, XO.2).1, nN)) = ((rs r_19).2.drop iN).take nN from by rw [show k = nN by omega]; exact rl_layD (by omega), List.length_take, List.length_drop, Nat.min_eq_left (by omega)]; first | done | rfl
                        show _ = (s_cut (cd, pl, df, tx, kp, rs) (nI tN) (nI uN) (nI iN) (nI nN)).1 ∧ InvR cI m (s_cut (cd, pl, df, tx, kp, rs) (nI tN) (nI uN) (nI iN) (nI nN)).2 _
                        rw [e9]
                        exact ⟨rfl, A, f_147, XD, XP, XU, (itN (fun j f => upd f j (lf (rs r_19).2 (iN + j))) k XO.1, XO.2), XB, hR, hdf, hit_147⟩
                      ·
                        have c_109 : ¬ (nN ≤ k) := fun q9 => absurd ((nI_leI (by omega) (by omega)).mpr q9) (show ¬ (nI nN ≤ nI k) from c_109)
                        refine lv_aload_n hx hb dX3_cut_112 rfl (lv_at hl 0 rfl) ?_
                        refine wd_get (ci := 3) (v := .ref (A 8)) (C := RX3) (T := TX3) (N := 18) hx hb hts (by decide +kernel) hown hK.1 hW hR.1 rfl 14 (by decide) (hts (.fieldLink RX3 38 "CharRowsModel" "others" "[I") (by decide +kernel)) (fun _ h9 => h9) rfl dX3_cut_113 ?_
                        refine lv_iload hx hb dX3_cut_116 (lv_at hl 5 rfl) ?_
                        refine lv_aload_n hx hb dX3_cut_118 rfl (lv_at hl 0 rfl) ?_
                        refine lv_iload_n hx hb dX3_cut_119 rfl (lv_at hl 2 rfl) ?_
                        refine lv_iload_n hx hb dX3_cut_120 rfl (lv_at hl 3 rfl) ?_
                        refine lv_iload hx hb dX3_cut_121 (lv_at hl 5 rfl) ?_
                        refine lv_iadd hx hb dX3_cut_123 ?_
                        refine wd_topE (y := nI (iN + k)) (nI_add _ _) ?_
                        refine wd_callVi (As := [.int (nI uN), .int (nI (iN + k))]) (rest := [.int (nI k), .ref (A 8)]) (c2 := 0) (s2 := 0) ⟨hx, hb, hml, hown, hts⟩ (k_X3_item l D cI cT w_l105 H.size m A (kI kp) (fun r => (rs r).1) (fun r => nI (rs r).2.length) fI kp.length cd pl XD XP XU (itN (fun j f => upd f j (lf (rs r_19).2 (iN + j))) k XO.1, XO.2) XB tx rs uN r_19 (iN + k) hR (by omega) htx_19 hr24_19 hit (by omega)) (cwV 2 hts gX3_cut_X3_item rfl rfl rfl (by decide +kernel) ⟨Nat.le_of_ble_eq_true rfl, Nat.le_of_ble_eq_true rfl⟩) gK_ok hK hW (wd_recv (ci := 3) hK.1 hW rfl hR.1) hS hA rfl hl.1 rfl (Nat.le_of_ble_eq_true rfl) dX3_cut_124 ⟨Nat.le_of_ble_eq_true rfl, Nat.le_of_ble_eq_true rfl⟩ rfl rfl (fun r_124 w_124 H locs hp_124 hW hz hS => ?_)
                        obtain ⟨q_r, q_w⟩ := hp_124
                        subst r_124
                        subst w_124
                        refine wd_iast hx hb hK.1 hW hS 0 hR.2.2.2.2.2.2.2.2.2.1 rfl (vp_in_nI (by omega) (by omega)) dX3_cut_127 (fun H locs hW hS => ?_)
                        rw [nI_clamp (by omega)] at hW
                        obtain ⟨w_v2, hW, hR⟩ : ∃ w', wd_P D vwCl (wd_A w sg.heap.size) w' H ∧ rW cI m A (fun t => oI (tx t)) (kI kp) (fun r => (rs r).1) (fun r => nI (rs r).2.length) fI kp.length cd pl XD XP XU ((upd (itN (fun j f => upd f j (lf (rs r_19).2 (iN + j))) k XO.1) k (lf (rs r_19).2 (iN + k))), XO.2) XB w' := ⟨_, hW, hR.aXO (upd (itN (fun j f => upd f j (lf (rs r_19).2 (iN + j))) k XO.1) k (lf (rs r_19).2 (iN + k)))⟩
                        refine lv_iinc (v := nI (k + 1)) (lv' := [(5, .int (nI (k + 1))), (0, .ref m), (1, .int (nI tN)), (2, .int (nI uN)), (3, .int (nI iN)), (4, .int (nI nN))]) hx hb dX3_cut_128 hl (k := 5) rfl (nI_add k 1) (by decide) rfl (fun ls hl => ?_)
                        refine lv_goto (tgt := 105) hx hb dX3_cut_131 (by decide) ?_
                        exact ih_105 (k + 1) H locs ls ⟨(by omega), ⟨_, hW, hR⟩, hS, (lv_sub hl [1, 2, 3, 4, 5, 0] rfl)⟩ (by omega)
                    ·
                      have c_92 := j_bn c_92
                      refine lv_aload_n hx hb dX3_cut_95 rfl (lv_at hl 0 rfl) ?_
                      refine lv_bipush (v := 7) hx hb dX3_cut_96 (by decide) ?_
                      refine wd_callVi (As := [.int 7]) (rest := []) (c2 := 0) (s2 := 0) ⟨hx, hb, hml, hown, hts⟩ (k_X3_no l D cI cT w H.size m A (fun t => oI (tx t)) (kI kp) (fun r => (rs r).1) (fun r => nI (rs r).2.length) fI kp.length cd pl XD XP XU XO XB 7 hR) (cwV 1 hts gX3_cut_X3_no rfl rfl rfl (by decide +kernel) ⟨Nat.le_of_ble_eq_true rfl, Nat.le_of_ble_eq_true rfl⟩) gK_ok hK hW (wd_recv (ci := 3) hK.1 hW rfl hR.1) hS hA rfl hl.1 rfl (Nat.le_of_ble_eq_true rfl) dX3_cut_98 ⟨Nat.le_of_ble_eq_true rfl, Nat.le_of_ble_eq_true rfl⟩ rfl rfl (fun r_98 w_98 H locs hp_98 hW hz hS => ?_)
                      obtain ⟨q_r, hR⟩ := hp_98
                      subst r_98
                      refine wd_iret hx hb hr hlocks hW hS dX3_cut_101 ?_
                      have e9 : s_cut (cd, pl, df, tx, kp, rs) (nI tN) (nI uN) (nI iN) (nI nN) = (0, 7, pl, df, tx, kp, rs) := by simp only [s_cut, if_neg (not_or.mpr ⟨c_4, c_11⟩), s_w1, s_no, s_mk, if_neg c_34, if_neg (bey_no (len := (rs r_19).2.length) (i := iN) (n := nN) (by omega) (by omega) (by omega)), if_pos (show 0 < nI nN ∧ (rs r_19).1 = 0 ∧ (u_ins (rs r_19).2 iN ∨ u_ins (rs r_19).2 (iN + nN)) from ⟨nI_lt (a := 0) (b := nN) (by omega) (by omega), c_92.1, Or.inr c_92.2⟩), hcl_t, hcl_u, hcl_n, hcl_i, htx_19]
                      show _ = (s_cut (cd, pl, df, tx, kp, rs) (nI tN) (nI uN) (nI iN) (nI nN)).1 ∧ InvR cI m (s_cut (cd, pl, df, tx, kp, rs) (nI tN) (nI uN) (nI iN) (nI nN)).2 _
                      rw [e9]
                      exact ⟨rfl, A, fI, XD, XP, XU, XO, XB, hR, hdf, hit⟩
              ·
                simp only [i_le, Decidable.not_not] at c_60
                have c_60 : (rs r_19).2.length < iN + nN := (lc (by omega) (by omega)).mp c_60
                refine lv_aload_n hx hb dX3_cut_63 rfl (lv_at hl 0 rfl) ?_
                refine lv_iconst (v := 3) hx hb dX3_cut_64 (by decide) ?_
                refine wd_callVi (As := [.int 3]) (rest := []) (c2 := 0) (s2 := 0) ⟨hx, hb, hml, hown, hts⟩ (k_X3_no l D cI cT w H.size m A (fun t => oI (tx t)) (kI kp) (fun r => (rs r).1) (fun r => nI (rs r).2.length) fI kp.length cd pl XD XP XU XO XB 3 hR) (cwV 1 hts gX3_cut_X3_no rfl rfl rfl (by decide +kernel) ⟨Nat.le_of_ble_eq_true rfl, Nat.le_of_ble_eq_true rfl⟩) gK_ok hK hW (wd_recv (ci := 3) hK.1 hW rfl hR.1) hS hA rfl hl.1 rfl (Nat.le_of_ble_eq_true rfl) dX3_cut_65 ⟨Nat.le_of_ble_eq_true rfl, Nat.le_of_ble_eq_true rfl⟩ rfl rfl (fun r_65 w_65 H locs hp_65 hW hz hS => ?_)
                obtain ⟨q_r, hR⟩ := hp_65
                subst r_65
                refine wd_iret hx hb hr hlocks hW hS dX3_cut_68 ?_
                have e9 : s_cut (cd, pl, df, tx, kp, rs) (nI tN) (nI uN) (nI iN) (nI nN) = (0, 3, pl, df, tx, kp, rs) := by simp only [s_cut, if_neg (not_or.mpr ⟨c_4, c_11⟩), s_w1, s_no, s_mk, if_neg c_34, if_pos (bey_yes (len := (rs r_19).2.length) (i := iN) (n := nN) (by omega) (by omega) (by omega)), hcl_t, hcl_u, hcl_n, hcl_i, htx_19]
                show _ = (s_cut (cd, pl, df, tx, kp, rs) (nI tN) (nI uN) (nI iN) (nI nN)).1 ∧ InvR cI m (s_cut (cd, pl, df, tx, kp, rs) (nI tN) (nI uN) (nI iN) (nI nN)).2 _
                rw [e9]
                exact ⟨rfl, A, fI, XD, XP, XU, XO, XB, hR, hdf, hit⟩
          ·
            simp only [i_le, Decidable.not_not] at c_34
            refine lv_aload_n hx hb dX3_cut_37 rfl (lv_at hl 0 rfl) ?_
            refine lv_iconst (v := 4) hx hb dX3_cut_38 (by decide) ?_
            refine wd_callVi (As := [.int 4]) (rest := []) (c2 := 0) (s2 := 0) ⟨hx, hb, hml, hown, hts⟩ (k_X3_no l D cI cT w H.size m A (fun t => oI (tx t)) (kI kp) (fun r => (rs r).1) (fun r => nI (rs r).2.length) fI kp.length cd pl XD XP XU XO XB 4 hR) (cwV 1 hts gX3_cut_X3_no rfl rfl rfl (by decide +kernel) ⟨Nat.le_of_ble_eq_true rfl, Nat.le_of_ble_eq_true rfl⟩) gK_ok hK hW (wd_recv (ci := 3) hK.1 hW rfl hR.1) hS hA rfl hl.1 rfl (Nat.le_of_ble_eq_true rfl) dX3_cut_39 ⟨Nat.le_of_ble_eq_true rfl, Nat.le_of_ble_eq_true rfl⟩ rfl rfl (fun r_39 w_39 H locs hp_39 hW hz hS => ?_)
            obtain ⟨q_r, hR⟩ := hp_39
            subst r_39
            refine wd_iret hx hb hr hlocks hW hS dX3_cut_42 ?_
            have e9 : s_cut (cd, pl, df, tx, kp, rs) (nI tN) (nI uN) i n = (0, 4, pl, df, tx, kp, rs) := by simp only [s_cut, if_neg (not_or.mpr ⟨c_4, c_11⟩), s_w1, s_no, s_mk, if_pos c_34, hcl_t, hcl_u, htx_19]
            show _ = (s_cut (cd, pl, df, tx, kp, rs) (nI tN) (nI uN) i n).1 ∧ InvR cI m (s_cut (cd, pl, df, tx, kp, rs) (nI tN) (nI uN) i n).2 _
            rw [e9]
            exact ⟨rfl, A, fI, XD, XP, XU, XO, XB, hR, hdf, hit⟩
        ·
          exact absurd c_23 (hok _ _ htx_19).nm1
    ·
      have c_11 := nt_of (j_b0 c_11)
      refine lv_ldc (v := (-2000000001)) hx hb hown (hts (.constant RX3 107 (-2000000001)) (by decide +kernel)) dX3_cut_14 ?_
      refine wd_iret hx hb hr hlocks hW hS dX3_cut_16 ?_
      have e9 : s_cut (cd, pl, df, tx, kp, rs) (nI tN) u i n = ((-2000000001), cd, pl, df, tx, kp, rs) := by simp only [s_cut, if_pos (Or.inr c_11), s_w1, s_no, s_mk, hcl_t]
      show _ = (s_cut (cd, pl, df, tx, kp, rs) (nI tN) u i n).1 ∧ InvR cI m (s_cut (cd, pl, df, tx, kp, rs) (nI tN) u i n).2 _
      rw [e9]
      exact ⟨rfl, A, fI, XD, XP, XU, XO, XB, hR, hdf, hit⟩
set_option maxHeartbeats 4000000 in
set_option maxRecDepth 100000 in
theorem k_X3_copy (l : Launch) (D : va_G) (cI cT : ClassId) (w : Wd) (sz : Nat) (m : Nat) (cd : Int32) (pl : Int32) (df : List Int32) (tx : Nat → Option Nat) (kp : List Nat) (rs : Rws) (x : Int32) (i : Int32) (y : Int32) (j : Int32) (n : Int32) (hwf : WF (cd, pl, df, tx, kp, rs)) (hI : InvR cI m (cd, pl, df, tx, kp, rs) w) : wd_Mi l D vwCl (gK D cI cT) yX3_copy wsX3_copy (wd_rm 2 0 0) [.ref m, .int x, .int i, .int y, .int j, .int n] w sz (fun r w' => r = (s_copy (cd, pl, df, tx, kp, rs) x i y j n).1 ∧ InvR cI m (s_copy (cd, pl, df, tx, kp, rs) x i y j n).2 w') := by
  refine wd_met (cc := cX3_copy) (maxL := 7) (ret := (some .int)) (by decide) rfl (Nat.le_of_ble_eq_true rfl) ?_
  intro pg ev sg mi bl mt cde ls C0 hsz hK hW hl
  obtain ⟨hx, hb, hr, hml, hown, hts, hlocks, hnm⟩ := C0
  subst hsz
  have hown : sg.vm.findClass RX3 = some mi.cls := hown
  have hS : va_S (wd_A w sg.heap.size) sg.heap sg.heap [] := va_S.rf
  have hA : ∀ q, sg.heap.size ≤ q → wd_A w sg.heap.size q := fun q h => Or.inr h
  have hl : lv_has ls 7 [(0, .ref m), (1, .int x), (2, .int i), (3, .int y), (4, .int j), (5, .int n)] := hl
  obtain ⟨A, fI, XD, XP, XU, XO, XB, hR, hdf, hit⟩ := hI
  dsimp only at hR hdf hit
  have h10 : ∀ t, 10 ≤ t → tx t = none := hwf.2.1
  have hkp : kp.length ≤ 12 := hwf.2.2.1
  have hlv : ∀ t r, tx t = some r → r < 24 := fun t r h => (hwf.2.2.2.1 r (Or.inl ⟨t, h⟩)).1
  have hok : ∀ t r, tx t = some r → rOK (rs r) := fun t r h => (hwf.2.2.2.1 r (Or.inl ⟨t, h⟩)).2
  have hk24 : ∀ r ∈ kp, r < 24 := fun r h => (hwf.2.2.2.1 r (Or.inr h)).1
  have hdl : df.length = XD.2 := by rw [← hdf, rl_len]
  have hd60 : df.length ≤ 60 := hwf.1.1
  refine lv_iload_n hx hb dX3_copy_0 rfl (lv_at hl 1 rfl) ?_
  refine wd_callSi (As := [.int x]) (rest := []) (c2 := 0) (s2 := 0) ⟨hx, hb, hml, hown, hts⟩ (k_X3_isText l D cI cT w sg.heap.size x ) (va_cwS 1 hts gX3_copy_X3_isText rfl rfl rfl (by decide +kernel) ⟨Nat.le_of_ble_eq_true rfl, Nat.le_of_ble_eq_true rfl⟩) gK_ok hK hW hS hA rfl hl.1 rfl (Nat.le_of_ble_eq_true rfl) dX3_copy_1 ⟨Nat.le_of_ble_eq_true rfl, Nat.le_of_ble_eq_true rfl⟩ rfl rfl (fun r_1 w_1 H locs hp_1 hW hz hS => ?_)
  obtain ⟨q_r, q_w⟩ := hp_1
  subst r_1
  subst w_1
  refine lv_if_eq (tgt := 14) hx hb dX3_copy_4 (by decide) (fun c_4 => ?_) (fun c_4 => ?_)
  ·
    have c_4 := nt_of (j_b0 c_4)
    refine lv_ldc (v := (-2000000001)) hx hb hown (hts (.constant RX3 107 (-2000000001)) (by decide +kernel)) dX3_copy_14 ?_
    refine wd_iret hx hb hr hlocks hW hS dX3_copy_16 ?_
    have e9 : s_copy (cd, pl, df, tx, kp, rs) x i y j n = ((-2000000001), cd, pl, df, tx, kp, rs) := by simp only [s_copy, if_pos (Or.inl c_4), s_w2, s_no, s_rs]
    show _ = (s_copy (cd, pl, df, tx, kp, rs) x i y j n).1 ∧ InvR cI m (s_copy (cd, pl, df, tx, kp, rs) x i y j n).2 _
    rw [e9]
    exact ⟨rfl, A, fI, XD, XP, XU, XO, XB, hR, hdf, hit⟩
  ·
    have c_4 := j_bn c_4
    obtain ⟨xN, hxN, hxE⟩ := nt_spec c_4
    subst hxE
    have hcl_x : (nI xN).toNatClampNeg = xN := nI_clamp (by omega)
    refine lv_iload_n hx hb dX3_copy_7 rfl (lv_at hl 3 rfl) ?_
    refine wd_callSi (As := [.int y]) (rest := []) (c2 := 0) (s2 := 0) ⟨hx, hb, hml, hown, hts⟩ (k_X3_isText l D cI cT w H.size y ) (va_cwS 1 hts gX3_copy_X3_isText rfl rfl rfl (by decide +kernel) ⟨Nat.le_of_ble_eq_true rfl, Nat.le_of_ble_eq_true rfl⟩) gK_ok hK hW hS hA rfl hl.1 rfl (Nat.le_of_ble_eq_true rfl) dX3_copy_8 ⟨Nat.le_of_ble_eq_true rfl, Nat.le_of_ble_eq_true rfl⟩ rfl rfl (fun r_8 w_8 H locs hp_8 hW hz hS => ?_)
    obtain ⟨q_r, q_w⟩ := hp_8
    subst r_8
    subst w_8
    refine lv_if_ne (tgt := 17) hx hb dX3_copy_11 (by decide) (fun c_11 => ?_) (fun c_11 => ?_)
    ·
      have c_11 := j_bn c_11
      obtain ⟨yN, hyN, hyE⟩ := nt_spec c_11
      subst hyE
      have hcl_y : (nI yN).toNatClampNeg = yN := nI_clamp (by omega)
      refine lv_aload_n hx hb dX3_copy_17 rfl (lv_at hl 0 rfl) ?_
      refine lv_iload_n hx hb dX3_copy_18 rfl (lv_at hl 1 rfl) ?_
      refine wd_callVi (As := [.int (nI xN)]) (rest := []) (c2 := 0) (s2 := 0) ⟨hx, hb, hml, hown, hts⟩ (k_X3_sortOf l D cI cT w H.size m A (kI kp) (fun r => nI (rs r).2.length) fI kp.length cd pl XD XP XU XO XB tx rs xN hR (by omega) hlv) (cwV 1 hts gX3_copy_X3_sortOf rfl rfl rfl (by decide +kernel) ⟨Nat.le_of_ble_eq_true rfl, Nat.le_of_ble_eq_true rfl⟩) gK_ok hK hW (wd_recv (ci := 3) hK.1 hW rfl hR.1) hS hA rfl hl.1 rfl (Nat.le_of_ble_eq_true rfl) dX3_copy_19 ⟨Nat.le_of_ble_eq_true rfl, Nat.le_of_ble_eq_true rfl⟩ rfl rfl (fun r_19 w_19 H locs hp_19 hW hz hS => ?_)
      obtain ⟨q_r, q_w⟩ := hp_19
      subst r_19
      subst w_19
      cases htx_19 : tx xN with
      | none =>
        refine wd_topE (y := -1) rfl ?_
        refine lv_iconst (v := (-1)) hx hb dX3_copy_22 (by decide) ?_
        refine lv_icmp_eq (tgt := 35) hx hb dX3_copy_23 (by decide) (fun c_23 => ?_) (fun c_23 => ?_)
        ·
          refine lv_aload_n hx hb dX3_copy_35 rfl (lv_at hl 0 rfl) ?_
          refine lv_iconst (v := 1) hx hb dX3_copy_36 (by decide) ?_
          refine wd_callVi (As := [.int 1]) (rest := []) (c2 := 0) (s2 := 0) ⟨hx, hb, hml, hown, hts⟩ (k_X3_no l D cI cT w H.size m A (fun t => oI (tx t)) (kI kp) (fun r => (rs r).1) (fun r => nI (rs r).2.length) fI kp.length cd pl XD XP XU XO XB 1 hR) (cwV 1 hts gX3_copy_X3_no rfl rfl rfl (by decide +kernel) ⟨Nat.le_of_ble_eq_true rfl, Nat.le_of_ble_eq_true rfl⟩) gK_ok hK hW (wd_recv (ci := 3) hK.1 hW rfl hR.1) hS hA rfl hl.1 rfl (Nat.le_of_ble_eq_true rfl) dX3_copy_37 ⟨Nat.le_of_ble_eq_true rfl, Nat.le_of_ble_eq_true rfl⟩ rfl rfl (fun r_37 w_37 H locs hp_37 hW hz hS => ?_)
          obtain ⟨q_r, hR⟩ := hp_37
          subst r_37
          refine wd_iret hx hb hr hlocks hW hS dX3_copy_40 ?_
          have e9 : s_copy (cd, pl, df, tx, kp, rs) (nI xN) i (nI yN) j n = (0, 1, pl, df, tx, kp, rs) := by simp only [s_copy, if_neg (not_or.mpr ⟨c_4, c_11⟩), s_w2, s_no, s_rs, hcl_x, hcl_y, htx_19]
          show _ = (s_copy (cd, pl, df, tx, kp, rs) (nI xN) i (nI yN) j n).1 ∧ InvR cI m (s_copy (cd, pl, df, tx, kp, rs) (nI xN) i (nI yN) j n).2 _
          rw [e9]
          exact ⟨rfl, A, fI, XD, XP, XU, XO, XB, hR, hdf, hit⟩
        ·
          exact absurd rfl c_23
      | some r_19 =>
        refine wd_topE (y := (rs r_19).1) rfl ?_
        have hr24_19 := hlv _ _ htx_19
        refine lv_iconst (v := (-1)) hx hb dX3_copy_22 (by decide) ?_
        refine lv_icmp_eq (tgt := 35) hx hb dX3_copy_23 (by decide) (fun c_23 => ?_) (fun c_23 => ?_)
        ·
          exact absurd c_23 (hok _ _ htx_19).nm1
        ·
          refine lv_aload_n hx hb dX3_copy_26 rfl (lv_at hl 0 rfl) ?_
          refine lv_iload_n hx hb dX3_copy_27 rfl (lv_at hl 3 rfl) ?_
          refine wd_callVi (As := [.int (nI yN)]) (rest := []) (c2 := 0) (s2 := 0) ⟨hx, hb, hml, hown, hts⟩ (k_X3_sortOf l D cI cT w H.size m A (kI kp) (fun r => nI (rs r).2.length) fI kp.length cd pl XD XP XU XO XB tx rs yN hR (by omega) hlv) (cwV 1 hts gX3_copy_X3_sortOf rfl rfl rfl (by decide +kernel) ⟨Nat.le_of_ble_eq_true rfl, Nat.le_of_ble_eq_true rfl⟩) gK_ok hK hW (wd_recv (ci := 3) hK.1 hW rfl hR.1) hS hA rfl hl.1 rfl (Nat.le_of_ble_eq_true rfl) dX3_copy_28 ⟨Nat.le_of_ble_eq_true rfl, Nat.le_of_ble_eq_true rfl⟩ rfl rfl (fun r_28 w_28 H locs hp_28 hW hz hS => ?_)
          obtain ⟨q_r, q_w⟩ := hp_28
          subst r_28
          subst w_28
          cases htx_28 : tx yN with
          | none =>
            refine wd_topE (y := -1) rfl ?_
            refine lv_iconst (v := (-1)) hx hb dX3_copy_31 (by decide) ?_
            refine lv_icmp_ne (tgt := 41) hx hb dX3_copy_32 (by decide) (fun c_32 => ?_) (fun c_32 => ?_)
            ·
              exact absurd rfl c_32
            ·
              refine lv_aload_n hx hb dX3_copy_35 rfl (lv_at hl 0 rfl) ?_
              refine lv_iconst (v := 1) hx hb dX3_copy_36 (by decide) ?_
              refine wd_callVi (As := [.int 1]) (rest := []) (c2 := 0) (s2 := 0) ⟨hx, hb, hml, hown, hts⟩ (k_X3_no l D cI cT w H.size m A (fun t => oI (tx t)) (kI kp) (fun r => (rs r).1) (fun r => nI (rs r).2.length) fI kp.length cd pl XD XP XU XO XB 1 hR) (cwV 1 hts gX3_copy_X3_no rfl rfl rfl (by decide +kernel) ⟨Nat.le_of_ble_eq_true rfl, Nat.le_of_ble_eq_true rfl⟩) gK_ok hK hW (wd_recv (ci := 3) hK.1 hW rfl hR.1) hS hA rfl hl.1 rfl (Nat.le_of_ble_eq_true rfl) dX3_copy_37 ⟨Nat.le_of_ble_eq_true rfl, Nat.le_of_ble_eq_true rfl⟩ rfl rfl (fun r_37 w_37 H locs hp_37 hW hz hS => ?_)
              obtain ⟨q_r, hR⟩ := hp_37
              subst r_37
              refine wd_iret hx hb hr hlocks hW hS dX3_copy_40 ?_
              have e9 : s_copy (cd, pl, df, tx, kp, rs) (nI xN) i (nI yN) j n = (0, 1, pl, df, tx, kp, rs) := by simp only [s_copy, if_neg (not_or.mpr ⟨c_4, c_11⟩), s_w2, s_no, s_rs, hcl_x, hcl_y, htx_19, htx_28]
              show _ = (s_copy (cd, pl, df, tx, kp, rs) (nI xN) i (nI yN) j n).1 ∧ InvR cI m (s_copy (cd, pl, df, tx, kp, rs) (nI xN) i (nI yN) j n).2 _
              rw [e9]
              exact ⟨rfl, A, fI, XD, XP, XU, XO, XB, hR, hdf, hit⟩
          | some r_28 =>
            refine wd_topE (y := (rs r_28).1) rfl ?_
            have hr24_28 := hlv _ _ htx_28
            refine lv_iconst (v := (-1)) hx hb dX3_copy_31 (by decide) ?_
            refine lv_icmp_ne (tgt := 41) hx hb dX3_copy_32 (by decide) (fun c_32 => ?_) (fun c_32 => ?_)
            ·
              refine lv_aload_n hx hb dX3_copy_41 rfl (lv_at hl 0 rfl) ?_
              refine lv_iload_n hx hb dX3_copy_42 rfl (lv_at hl 1 rfl) ?_
              refine wd_callVi (As := [.int (nI xN)]) (rest := []) (c2 := 0) (s2 := 0) ⟨hx, hb, hml, hown, hts⟩ (k_X3_sortOf l D cI cT w H.size m A (kI kp) (fun r => nI (rs r).2.length) fI kp.length cd pl XD XP XU XO XB tx rs xN hR (by omega) hlv) (cwV 1 hts gX3_copy_X3_sortOf rfl rfl rfl (by decide +kernel) ⟨Nat.le_of_ble_eq_true rfl, Nat.le_of_ble_eq_true rfl⟩) gK_ok hK hW (wd_recv (ci := 3) hK.1 hW rfl hR.1) hS hA rfl hl.1 rfl (Nat.le_of_ble_eq_true rfl) dX3_copy_43 ⟨Nat.le_of_ble_eq_true rfl, Nat.le_of_ble_eq_true rfl⟩ rfl rfl (fun r_43 w_43 H locs hp_43 hW hz hS => ?_)
              obtain ⟨q_r, q_w⟩ := hp_43
              subst r_43
              subst w_43
              refine wd_topE (y := (rs r_19).1) (by rw [htx_19]; rfl) ?_
              refine lv_iconst (v := 1) hx hb dX3_copy_46 (by decide) ?_
              refine lv_icmp_eq (tgt := 63) hx hb dX3_copy_47 (by decide) (fun c_47 => ?_) (fun c_47 => ?_)
              ·
                refine lv_aload_n hx hb dX3_copy_63 rfl (lv_at hl 0 rfl) ?_
                refine lv_iconst (v := 2) hx hb dX3_copy_64 (by decide) ?_
                refine wd_callVi (As := [.int 2]) (rest := []) (c2 := 0) (s2 := 0) ⟨hx, hb, hml, hown, hts⟩ (k_X3_no l D cI cT w H.size m A (fun t => oI (tx t)) (kI kp) (fun r => (rs r).1) (fun r => nI (rs r).2.length) fI kp.length cd pl XD XP XU XO XB 2 hR) (cwV 1 hts gX3_copy_X3_no rfl rfl rfl (by decide +kernel) ⟨Nat.le_of_ble_eq_true rfl, Nat.le_of_ble_eq_true rfl⟩) gK_ok hK hW (wd_recv (ci := 3) hK.1 hW rfl hR.1) hS hA rfl hl.1 rfl (Nat.le_of_ble_eq_true rfl) dX3_copy_65 ⟨Nat.le_of_ble_eq_true rfl, Nat.le_of_ble_eq_true rfl⟩ rfl rfl (fun r_65 w_65 H locs hp_65 hW hz hS => ?_)
                obtain ⟨q_r, hR⟩ := hp_65
                subst r_65
                refine wd_iret hx hb hr hlocks hW hS dX3_copy_68 ?_
                have e9 : s_copy (cd, pl, df, tx, kp, rs) (nI xN) i (nI yN) j n = (0, 2, pl, df, tx, kp, rs) := by simp only [s_copy, if_neg (not_or.mpr ⟨c_4, c_11⟩), s_w2, s_no, s_rs, if_pos (Or.inl c_47), hcl_x, hcl_y, htx_19, htx_28]
                show _ = (s_copy (cd, pl, df, tx, kp, rs) (nI xN) i (nI yN) j n).1 ∧ InvR cI m (s_copy (cd, pl, df, tx, kp, rs) (nI xN) i (nI yN) j n).2 _
                rw [e9]
                exact ⟨rfl, A, fI, XD, XP, XU, XO, XB, hR, hdf, hit⟩
              ·
                refine lv_aload_n hx hb dX3_copy_50 rfl (lv_at hl 0 rfl) ?_
                refine lv_iload_n hx hb dX3_copy_51 rfl (lv_at hl 1 rfl) ?_
                refine wd_callVi (As := [.int (nI xN)]) (rest := []) (c2 := 0) (s2 := 0) ⟨hx, hb, hml, hown, hts⟩ (k_X3_sortOf l D cI cT w H.size m A (kI kp) (fun r => nI (rs r).2.length) fI kp.length cd pl XD XP XU XO XB tx rs xN hR (by omega) hlv) (cwV 1 hts gX3_copy_X3_sortOf rfl rfl rfl (by decide +kernel) ⟨Nat.le_of_ble_eq_true rfl, Nat.le_of_ble_eq_true rfl⟩) gK_ok hK hW (wd_recv (ci := 3) hK.1 hW rfl hR.1) hS hA rfl hl.1 rfl (Nat.le_of_ble_eq_true rfl) dX3_copy_52 ⟨Nat.le_of_ble_eq_true rfl, Nat.le_of_ble_eq_true rfl⟩ rfl rfl (fun r_52 w_52 H locs hp_52 hW hz hS => ?_)
                obtain ⟨q_r, q_w⟩ := hp_52
                subst r_52
                subst w_52
                refine wd_topE (y := (rs r_19).1) (by rw [htx_19]; rfl) ?_
                refine lv_aload_n hx hb dX3_copy_55 rfl (lv_at hl 0 rfl) ?_
                refine lv_iload_n hx hb dX3_copy_56 rfl (lv_at hl 3 rfl) ?_
                refine wd_callVi (As := [.int (nI yN)]) (rest := [.int ((rs r_19).1)]) (c2 := 0) (s2 := 0) ⟨hx, hb, hml, hown, hts⟩ (k_X3_sortOf l D cI cT w H.size m A (kI kp) (fun r => nI (rs r).2.length) fI kp.length cd pl XD XP XU XO XB tx rs yN hR (by omega) hlv) (cwV 1 hts gX3_copy_X3_sortOf rfl rfl rfl (by decide +kernel) ⟨Nat.le_of_ble_eq_true rfl, Nat.le_of_ble_eq_true rfl⟩) gK_ok hK hW (wd_recv (ci := 3) hK.1 hW rfl hR.1) hS hA rfl hl.1 rfl (Nat.le_of_ble_eq_true rfl) dX3_copy_57 ⟨Nat.le_of_ble_eq_true rfl, Nat.le_of_ble_eq_true rfl⟩ rfl rfl (fun r_57 w_57 H locs hp_57 hW hz hS => ?_)
                obtain ⟨q_r, q_w⟩ := hp_57
                subst r_57
                subst w_57
                refine wd_topE (y := (rs r_28).1) (by rw [htx_28]; rfl) ?_
                refine lv_icmp_eq (tgt := 69) hx hb dX3_copy_60 (by decide) (fun c_60 => ?_) (fun c_60 => ?_)
                ·
                  have hlx := (hok _ _ htx_19).len
                  have hly := (hok _ _ htx_28).len
                  refine lv_iload_n hx hb dX3_copy_69 rfl (lv_at hl 2 rfl) ?_
                  refine lv_if_lt (tgt := 116) hx hb dX3_copy_70 (by decide) (fun c_70 => ?_) (fun c_70 => ?_)
                  ·
                    refine lv_aload_n hx hb dX3_copy_116 rfl (lv_at hl 0 rfl) ?_
                    refine lv_iconst (v := 3) hx hb dX3_copy_117 (by decide) ?_
                    refine wd_callVi (As := [.int 3]) (rest := []) (c2 := 0) (s2 := 0) ⟨hx, hb, hml, hown, hts⟩ (k_X3_no l D cI cT w H.size m A (fun t => oI (tx t)) (kI kp) (fun r => (rs r).1) (fun r => nI (rs r).2.length) fI kp.length cd pl XD XP XU XO XB 3 hR) (cwV 1 hts gX3_copy_X3_no rfl rfl rfl (by decide +kernel) ⟨Nat.le_of_ble_eq_true rfl, Nat.le_of_ble_eq_true rfl⟩) gK_ok hK hW (wd_recv (ci := 3) hK.1 hW rfl hR.1) hS hA rfl hl.1 rfl (Nat.le_of_ble_eq_true rfl) dX3_copy_118 ⟨Nat.le_of_ble_eq_true rfl, Nat.le_of_ble_eq_true rfl⟩ rfl rfl (fun r_118 w_118 H locs hp_118 hW hz hS => ?_)
                    obtain ⟨q_r, hR⟩ := hp_118
                    subst r_118
                    refine wd_iret hx hb hr hlocks hW hS dX3_copy_121 ?_
                    have e9 : s_copy (cd, pl, df, tx, kp, rs) (nI xN) i (nI yN) j n = (0, 3, pl, df, tx, kp, rs) := by simp only [s_copy, if_neg (not_or.mpr ⟨c_4, c_11⟩), s_w2, s_no, s_rs, if_neg (not_or.mpr ⟨c_47, not_not_intro c_60⟩), if_pos (Or.inl (bey_i c_70)), hcl_x, hcl_y, htx_19, htx_28]
                    show _ = (s_copy (cd, pl, df, tx, kp, rs) (nI xN) i (nI yN) j n).1 ∧ InvR cI m (s_copy (cd, pl, df, tx, kp, rs) (nI xN) i (nI yN) j n).2 _
                    rw [e9]
                    exact ⟨rfl, A, fI, XD, XP, XU, XO, XB, hR, hdf, hit⟩
                  ·
                    obtain ⟨iN, hiN, hiE⟩ := nI_of c_70
                    subst hiE
                    have hcl_i : (nI iN).toNatClampNeg = iN := nI_clamp (by omega)
                    refine lv_iload hx hb dX3_copy_73 (lv_at hl 4 rfl) ?_
                    refine lv_if_lt (tgt := 116) hx hb dX3_copy_75 (by decide) (fun c_75 => ?_) (fun c_75 => ?_)
                    ·
                      refine lv_aload_n hx hb dX3_copy_116 rfl (lv_at hl 0 rfl) ?_
                      refine lv_iconst (v := 3) hx hb dX3_copy_117 (by decide) ?_
                      refine wd_callVi (As := [.int 3]) (rest := []) (c2 := 0) (s2 := 0) ⟨hx, hb, hml, hown, hts⟩ (k_X3_no l D cI cT w H.size m A (fun t => oI (tx t)) (kI kp) (fun r => (rs r).1) (fun r => nI (rs r).2.length) fI kp.length cd pl XD XP XU XO XB 3 hR) (cwV 1 hts gX3_copy_X3_no rfl rfl rfl (by decide +kernel) ⟨Nat.le_of_ble_eq_true rfl, Nat.le_of_ble_eq_true rfl⟩) gK_ok hK hW (wd_recv (ci := 3) hK.1 hW rfl hR.1) hS hA rfl hl.1 rfl (Nat.le_of_ble_eq_true rfl) dX3_copy_118 ⟨Nat.le_of_ble_eq_true rfl, Nat.le_of_ble_eq_true rfl⟩ rfl rfl (fun r_118 w_118 H locs hp_118 hW hz hS => ?_)
                      obtain ⟨q_r, hR⟩ := hp_118
                      subst r_118
                      refine wd_iret hx hb hr hlocks hW hS dX3_copy_121 ?_
                      have e9 : s_copy (cd, pl, df, tx, kp, rs) (nI xN) (nI iN) (nI yN) j n = (0, 3, pl, df, tx, kp, rs) := by simp only [s_copy, if_neg (not_or.mpr ⟨c_4, c_11⟩), s_w2, s_no, s_rs, if_neg (not_or.mpr ⟨c_47, not_not_intro c_60⟩), if_pos (Or.inr (bey_i c_75)), hcl_x, hcl_y, hcl_i, htx_19, htx_28]
                      show _ = (s_copy (cd, pl, df, tx, kp, rs) (nI xN) (nI iN) (nI yN) j n).1 ∧ InvR cI m (s_copy (cd, pl, df, tx, kp, rs) (nI xN) (nI iN) (nI yN) j n).2 _
                      rw [e9]
                      exact ⟨rfl, A, fI, XD, XP, XU, XO, XB, hR, hdf, hit⟩
                    ·
                      obtain ⟨jN, hjN, hjE⟩ := nI_of c_75
                      subst hjE
                      have hcl_j : (nI jN).toNatClampNeg = jN := nI_clamp (by omega)
                      refine lv_iload hx hb dX3_copy_78 (lv_at hl 5 rfl) ?_
                      refine lv_if_lt (tgt := 116) hx hb dX3_copy_80 (by decide) (fun c_80 => ?_) (fun c_80 => ?_)
                      ·
                        refine lv_aload_n hx hb dX3_copy_116 rfl (lv_at hl 0 rfl) ?_
                        refine lv_iconst (v := 3) hx hb dX3_copy_117 (by decide) ?_
                        refine wd_callVi (As := [.int 3]) (rest := []) (c2 := 0) (s2 := 0) ⟨hx, hb, hml, hown, hts⟩ (k_X3_no l D cI cT w H.size m A (fun t => oI (tx t)) (kI kp) (fun r => (rs r).1) (fun r => nI (rs r).2.length) fI kp.length cd pl XD XP XU XO XB 3 hR) (cwV 1 hts gX3_copy_X3_no rfl rfl rfl (by decide +kernel) ⟨Nat.le_of_ble_eq_true rfl, Nat.le_of_ble_eq_true rfl⟩) gK_ok hK hW (wd_recv (ci := 3) hK.1 hW rfl hR.1) hS hA rfl hl.1 rfl (Nat.le_of_ble_eq_true rfl) dX3_copy_118 ⟨Nat.le_of_ble_eq_true rfl, Nat.le_of_ble_eq_true rfl⟩ rfl rfl (fun r_118 w_118 H locs hp_118 hW hz hS => ?_)
                        obtain ⟨q_r, hR⟩ := hp_118
                        subst r_118
                        refine wd_iret hx hb hr hlocks hW hS dX3_copy_121 ?_
                        have e9 : s_copy (cd, pl, df, tx, kp, rs) (nI xN) (nI iN) (nI yN) (nI jN) n = (0, 3, pl, df, tx, kp, rs) := by simp only [s_copy, if_neg (not_or.mpr ⟨c_4, c_11⟩), s_w2, s_no, s_rs, if_neg (not_or.mpr ⟨c_47, not_not_intro c_60⟩), if_pos (Or.inl (bey_n c_80)), hcl_x, hcl_y, hcl_i, hcl_j, htx_19, htx_28]
                        show _ = (s_copy (cd, pl, df, tx, kp, rs) (nI xN) (nI iN) (nI yN) (nI jN) n).1 ∧ InvR cI m (s_copy (cd, pl, df, tx, kp, rs) (nI xN) (nI iN) (nI yN) (nI jN) n).2 _
                        rw [e9]
                        exact ⟨rfl, A, fI, XD, XP, XU, XO, XB, hR, hdf, hit⟩
                      ·
                        obtain ⟨nN, hnN, hnE⟩ := nI_of c_80
                        subst hnE
                        have hcl_n : (nI nN).toNatClampNeg = nN := nI_clamp (by omega)
                        refine lv_iload_n hx hb dX3_copy_83 rfl (lv_at hl 2 rfl) ?_
                        refine lv_i2l (v := lN iN) hx hb dX3_copy_84 (nI_l (by omega)) ?_
                        refine lv_iload hx hb dX3_copy_85 (lv_at hl 5 rfl) ?_
                        refine lv_i2l (v := lN nN) hx hb dX3_copy_87 (nI_l (by omega)) ?_
                        refine lv_ladd hx hb dX3_copy_88 ?_
                        rw [lN_add]
                        refine lv_aload_n hx hb dX3_copy_89 rfl (lv_at hl 0 rfl) ?_
                        refine lv_iload_n hx hb dX3_copy_90 rfl (lv_at hl 1 rfl) ?_
                        refine wd_callVi (As := [.int (nI xN)]) (rest := [.long (lN (iN + nN))]) (c2 := 0) (s2 := 0) ⟨hx, hb, hml, hown, hts⟩ (k_X3_manyOf l D cI cT w H.size m A (kI kp) (fun r => (rs r).1) fI kp.length cd pl XD XP XU XO XB tx rs xN r_19 hR (by omega) htx_19 hr24_19) (cwV 1 hts gX3_copy_X3_manyOf rfl rfl rfl (by decide +kernel) ⟨Nat.le_of_ble_eq_true rfl, Nat.le_of_ble_eq_true rfl⟩) gK_ok hK hW (wd_recv (ci := 3) hK.1 hW rfl hR.1) hS hA rfl hl.1 rfl (Nat.le_of_ble_eq_true rfl) dX3_copy_91 ⟨Nat.le_of_ble_eq_true rfl, Nat.le_of_ble_eq_true rfl⟩ rfl rfl (fun r_91 w_91 H locs hp_91 hW hz hS => ?_)
                        obtain ⟨q_r, q_w⟩ := hp_91
                        subst r_91
                        subst w_91
                        refine lv_i2l (v := lN ((rs r_19).2.length)) hx hb dX3_copy_94 (nI_l (by omega)) ?_
                        refine W.lcmp hx hb dX3_copy_95 ?_
                        refine lv_if_gt (tgt := 116) hx hb dX3_copy_96 (by decide) (fun c_96 => ?_) (fun c_96 => ?_)
                        ·
                          have c_96 : (rs r_19).2.length < iN + nN := (lc (by omega) (by omega)).mp c_96
                          refine lv_aload_n hx hb dX3_copy_116 rfl (lv_at hl 0 rfl) ?_
                          refine lv_iconst (v := 3) hx hb dX3_copy_117 (by decide) ?_
                          refine wd_callVi (As := [.int 3]) (rest := []) (c2 := 0) (s2 := 0) ⟨hx, hb, hml, hown, hts⟩ (k_X3_no l D cI cT w H.size m A (fun t => oI (tx t)) (kI kp) (fun r => (rs r).1) (fun r => nI (rs r).2.length) fI kp.length cd pl XD XP XU XO XB 3 hR) (cwV 1 hts gX3_copy_X3_no rfl rfl rfl (by decide +kernel) ⟨Nat.le_of_ble_eq_true rfl, Nat.le_of_ble_eq_true rfl⟩) gK_ok hK hW (wd_recv (ci := 3) hK.1 hW rfl hR.1) hS hA rfl hl.1 rfl (Nat.le_of_ble_eq_true rfl) dX3_copy_118 ⟨Nat.le_of_ble_eq_true rfl, Nat.le_of_ble_eq_true rfl⟩ rfl rfl (fun r_118 w_118 H locs hp_118 hW hz hS => ?_)
                          obtain ⟨q_r, hR⟩ := hp_118
                          subst r_118
                          refine wd_iret hx hb hr hlocks hW hS dX3_copy_121 ?_
                          have e9 : s_copy (cd, pl, df, tx, kp, rs) (nI xN) (nI iN) (nI yN) (nI jN) (nI nN) = (0, 3, pl, df, tx, kp, rs) := by simp only [s_copy, if_neg (not_or.mpr ⟨c_4, c_11⟩), s_w2, s_no, s_rs, if_neg (not_or.mpr ⟨c_47, not_not_intro c_60⟩), if_pos (Or.inl (bey_yes (len := (rs r_19).2.length) (i := iN) (n := nN) (by omega) (by omega) (by omega))), hcl_x, hcl_y, hcl_i, hcl_j, hcl_n, htx_19, htx_28]
                          show _ = (s_copy (cd, pl, df, tx, kp, rs) (nI xN) (nI iN) (nI yN) (nI jN) (nI nN)).1 ∧ InvR cI m (s_copy (cd, pl, df, tx, kp, rs) (nI xN) (nI iN) (nI yN) (nI jN) (nI nN)).2 _
                          rw [e9]
                          exact ⟨rfl, A, fI, XD, XP, XU, XO, XB, hR, hdf, hit⟩
                        ·
                          have c_96 : ¬ (rs r_19).2.length < iN + nN := fun q => c_96 ((lc (by omega) (by omega)).mpr q)
                          refine lv_iload hx hb dX3_copy_99 (lv_at hl 4 rfl) ?_
                          refine lv_i2l (v := lN jN) hx hb dX3_copy_101 (nI_l (by omega)) ?_
                          refine lv_iload hx hb dX3_copy_102 (lv_at hl 5 rfl) ?_
                          refine lv_i2l (v := lN nN) hx hb dX3_copy_104 (nI_l (by omega)) ?_
                          refine lv_ladd hx hb dX3_copy_105 ?_
                          rw [lN_add]
                          refine lv_aload_n hx hb dX3_copy_106 rfl (lv_at hl 0 rfl) ?_
                          refine lv_iload_n hx hb dX3_copy_107 rfl (lv_at hl 3 rfl) ?_
                          refine wd_callVi (As := [.int (nI yN)]) (rest := [.long (lN (jN + nN))]) (c2 := 0) (s2 := 0) ⟨hx, hb, hml, hown, hts⟩ (k_X3_manyOf l D cI cT w H.size m A (kI kp) (fun r => (rs r).1) fI kp.length cd pl XD XP XU XO XB tx rs yN r_28 hR (by omega) htx_28 hr24_28) (cwV 1 hts gX3_copy_X3_manyOf rfl rfl rfl (by decide +kernel) ⟨Nat.le_of_ble_eq_true rfl, Nat.le_of_ble_eq_true rfl⟩) gK_ok hK hW (wd_recv (ci := 3) hK.1 hW rfl hR.1) hS hA rfl hl.1 rfl (Nat.le_of_ble_eq_true rfl) dX3_copy_108 ⟨Nat.le_of_ble_eq_true rfl, Nat.le_of_ble_eq_true rfl⟩ rfl rfl (fun r_108 w_108 H locs hp_108 hW hz hS => ?_)
                          obtain ⟨q_r, q_w⟩ := hp_108
                          subst r_108
                          subst w_108
                          refine lv_i2l (v := lN ((rs r_28).2.length)) hx hb dX3_copy_111 (nI_l (by omega)) ?_
                          refine W.lcmp hx hb dX3_copy_112 ?_
                          refine lv_if_le (tgt := 122) hx hb dX3_copy_113 (by decide) (fun c_113 => ?_) (fun c_113 => ?_)
                          ·
                            simp only [i_le, Decidable.not_not] at c_113
                            have c_113 : ¬ (rs r_28).2.length < jN + nN := fun q => c_113 ((lc (by omega) (by omega)).mpr q)
                            refine lv_iconst (v := 0) hx hb dX3_copy_122 (by decide) ?_
                            refine lv_istore (lv' := [(6, .int 0), (0, .ref m), (1, .int (nI xN)), (2, .int (nI iN)), (3, .int (nI yN)), (4, .int (nI jN)), (5, .int (nI nN))]) hx hb dX3_copy_123 hl (by decide) rfl (fun ls hl => ?_)
                            refine wd_loop1 (fun (k : Nat) (H : Heap) (locs : List Loc) (ls : Array Slot) => (k ≤ nN) ∧ (∃ w', wd_P D vwCl (wd_A w sg.heap.size) w' H ∧ rW cI m A (fun t => oI (tx t)) (kI kp) (fun r => (rs r).1) (fun r => nI (rs r).2.length) fI kp.length cd pl XD XP XU (itN (fun j f => upd f j (lf (rs r_19).2 (iN + j))) k XO.1, XO.2) XB w') ∧ va_S (wd_A w sg.heap.size) sg.heap H locs ∧ lv_has ls 7 [(0, .ref m), (1, .int (nI xN)), (2, .int (nI iN)), (3, .int (nI yN)), (4, .int (nI jN)), (5, .int (nI nN)), (6, .int (nI k))]) (fun (k : Nat) => nN - k) 0 ⟨(by omega), ⟨_, hW, hR⟩, hS, (lv_sub hl [1, 2, 3, 4, 5, 6, 0] rfl)⟩ (fun k H locs ls hI ih_125 => ?_)
                            obtain ⟨hk, ⟨w_l125, hW, hR⟩, hS, hl⟩ := hI
                            refine lv_iload hx hb dX3_copy_125 (lv_at hl 6 rfl) ?_
                            refine lv_iload hx hb dX3_copy_127 (lv_at hl 5 rfl) ?_
                            refine lv_icmp_ge (tgt := 154) hx hb dX3_copy_129 (by decide) (fun c_129 => ?_) (fun c_129 => ?_)
                            ·
                              have c_129 : nN ≤ k := (nI_leI (by omega) (by omega)).mp (show (nI nN ≤ nI k) from c_129)
                              have hO : ∀ q, q < nN → itN (fun j f => upd f j (lf (rs r_19).2 (iN + j))) k XO.1 q = lf (rs r_19).2 (iN + q) := fun q hq => lay_val k q (by omega)
                              generalize itN (fun j f => upd f j (lf (rs r_19).2 (iN + j))) k XO.1 = gO at hR hO
                              refine lv_iconst (v := 0) hx hb dX3_copy_154 (by decide) ?_
                              refine lv_istore (lv' := [(6, .int 0), (0, .ref m), (1, .int (nI xN)), (2, .int (nI iN)), (3, .int (nI yN)), (4, .int (nI jN)), (5, .int (nI nN))]) hx hb dX3_copy_155 hl (by decide) rfl (fun ls hl => ?_)
                              refine wd_loop1 (fun (k : Nat) (H : Heap) (locs : List Loc) (ls : Array Slot) => (k ≤ nN) ∧ (∃ w', wd_P D vwCl (wd_A w sg.heap.size) w' H ∧ rW cI m A (fun t => oI (tx t)) (kI kp) (fun r => (rs r).1) (fun r => nI (rs r).2.length) (layN (240 * r_28 + jN) gO k fI) kp.length cd pl XD XP XU (gO, XO.2) XB w') ∧ va_S (wd_A w sg.heap.size) sg.heap H locs ∧ lv_has ls 7 [(0, .ref m), (1, .int (nI xN)), (2, .int (nI iN)), (3, .int (nI yN)), (4, .int (nI jN)), (5, .int (nI nN)), (6, .int (nI k))]) (fun (k : Nat) => nN - k) 0 ⟨(by omega), ⟨_, hW, hR⟩, hS, (lv_sub hl [1, 2, 3, 4, 5, 6, 0] rfl)⟩ (fun k H locs ls hI ih_157 => ?_)
                              obtain ⟨hk, ⟨w_l157, hW, hR⟩, hS, hl⟩ := hI
                              refine lv_iload hx hb dX3_copy_157 (lv_at hl 6 rfl) ?_
                              refine lv_iload hx hb dX3_copy_159 (lv_at hl 5 rfl) ?_
                              refine lv_icmp_ge (tgt := 198) hx hb dX3_copy_161 (by decide) (fun c_161 => ?_) (fun c_161 => ?_)
                              ·
                                have c_161 : nN ≤ k := (nI_leI (by omega) (by omega)).mp (show (nI nN ≤ nI k) from c_161)
                                have hit2 := rIt_copy (g := gO) (i := iN) (j := jN) (n := nN) (xs := (rs r_19).2) hit hr24_28 (by omega) (by omega) hO
                                rw [show k = nN by omega, upS0 rs r_28 ((rs r_28).2.take jN ++ (((rs r_19).2.drop iN).take nN ++ (rs r_28).2.drop (jN + nN))), upM0 rs r_28 ((rs r_28).2.take jN ++ (((rs r_19).2.drop iN).take nN ++ (rs r_28).2.drop (jN + nN))) (by simp; omega)] at hR
                                refine lv_aload_n hx hb dX3_copy_198 rfl (lv_at hl 0 rfl) ?_
                                refine lv_iload hx hb dX3_copy_199 (lv_at hl 5 rfl) ?_
                                refine wd_callVi (As := [.int (nI nN)]) (rest := []) (c2 := 0) (s2 := 0) ⟨hx, hb, hml, hown, hts⟩ (k_X3_yes l D cI cT w_l157 H.size m A (fun t => oI (tx t)) (kI kp) (fun r => ((va_up rs r_28 ((rs r_28).1, ((rs r_28).2.take jN ++ (((rs r_19).2.drop iN).take nN ++ (rs r_28).2.drop (jN + nN))))) r).1) (fun r => nI ((va_up rs r_28 ((rs r_28).1, ((rs r_28).2.take jN ++ (((rs r_19).2.drop iN).take nN ++ (rs r_28).2.drop (jN + nN))))) r).2.length) (layN (240 * r_28 + jN) gO nN fI) kp.length cd pl XD XP XU (gO, XO.2) XB (nI nN) hR) (cwV 1 hts gX3_copy_X3_yes rfl rfl rfl (by decide +kernel) ⟨Nat.le_of_ble_eq_true rfl, Nat.le_of_ble_eq_true rfl⟩) gK_ok hK hW (wd_recv (ci := 3) hK.1 hW rfl hR.1) hS hA rfl hl.1 rfl (Nat.le_of_ble_eq_true rfl) dX3_copy_201 ⟨Nat.le_of_ble_eq_true rfl, Nat.le_of_ble_eq_true rfl⟩ rfl rfl (fun r_201 w_201 H locs hp_201 hW hz hS => ?_)
                                obtain ⟨q_r, hR⟩ := hp_201
                                subst r_201
                                refine wd_iret hx hb hr hlocks hW hS dX3_copy_204 ?_
                                have e9 : s_copy (cd, pl, df, tx, kp, rs) (nI xN) (nI iN) (nI yN) (nI jN) (nI nN) = (nI nN, 0, pl, df, tx, kp, (va_up rs r_28 ((rs r_28).1, ((rs r_28).2.take jN ++ (((rs r_19).2.drop iN).take nN ++ (rs r_28).2.drop (jN + nN)))))) := by simp only [s_copy, if_neg (not_or.mpr ⟨c_4, c_11⟩), s_w2, s_no, s_rs, if_neg (not_or.mpr ⟨c_47, not_not_intro c_60⟩), if_neg (not_or.mpr ⟨(bey_no (len := (rs r_19).2.length) (i := iN) (n := nN) (by omega) (by omega) (by omega)), (bey_no (len := (rs r_28).2.length) (i := jN) (n := nN) (by omega) (by omega) (by omega))⟩), hcl_x, hcl_y, hcl_i, hcl_j, hcl_n, htx_19, htx_28]
                                show _ = (s_copy (cd, pl, df, tx, kp, rs) (nI xN) (nI iN) (nI yN) (nI jN) (nI nN)).1 ∧ InvR cI m (s_copy (cd, pl, df, tx, kp, rs) (nI xN) (nI iN) (nI yN) (nI jN) (nI nN)).2 _
                                rw [e9]
                                exact ⟨rfl, A, (layN (240 * r_28 + jN) gO nN fI), XD, XP, XU, (gO, XO.2), XB, hR, hdf, hit2⟩
                              ·
                                have c_161 : ¬ (nN ≤ k) := fun q9 => absurd ((nI_leI (by omega) (by omega)).mpr q9) (show ¬ (nI nN ≤ nI k) from c_161)
                                refine lv_aload_n hx hb dX3_copy_164 rfl (lv_at hl 0 rfl) ?_
                                refine wd_get (ci := 3) (v := .ref (A 4)) (C := RX3) (T := TX3) (N := 18) hx hb hts (by decide +kernel) hown hK.1 hW hR.1 rfl 5 (by decide) (hts (.fieldLink RX3 22 "CharRowsModel" "rowItem" "[I") (by decide +kernel)) (fun _ h9 => h9) rfl dX3_copy_165 ?_
                                refine lv_sipush (v := 240) hx hb dX3_copy_168 (by decide) ?_
                                refine lv_aload_n hx hb dX3_copy_171 rfl (lv_at hl 0 rfl) ?_
                                refine wd_get (ci := 3) (v := .ref (A 0)) (C := RX3) (T := TX3) (N := 18) hx hb hts (by decide +kernel) hown hK.1 hW hR.1 rfl 0 (by decide) (hts (.fieldLink RX3 7 "CharRowsModel" "textRow" "[I") (by decide +kernel)) (fun _ h9 => h9) rfl dX3_copy_172 ?_
                                refine lv_iload_n hx hb dX3_copy_175 rfl (lv_at hl 3 rfl) ?_
                                refine wd_iald hx hb hK.1 hW 0 hR.2.1 rfl (vp_in_nI (by omega) (by omega)) dX3_copy_176 ?_
                                refine wd_topE (y := nI r_28) (by rw [nI_clamp (by omega)]; show oI (tx yN) = _; rw [htx_28]; rfl) ?_
                                refine lv_imul hx hb dX3_copy_177 ?_
                                refine wd_topE (y := nI (240 * r_28)) (pk_mul 240 _) ?_
                                refine lv_iload hx hb dX3_copy_178 (lv_at hl 4 rfl) ?_
                                refine lv_iadd hx hb dX3_copy_180 ?_
                                refine wd_topE (y := nI (240 * r_28 + jN)) (nI_add _ _) ?_
                                refine lv_iload hx hb dX3_copy_181 (lv_at hl 6 rfl) ?_
                                refine lv_iadd hx hb dX3_copy_183 ?_
                                refine wd_topE (y := nI (240 * r_28 + jN + k)) (nI_add _ _) ?_
                                refine lv_aload_n hx hb dX3_copy_184 rfl (lv_at hl 0 rfl) ?_
                                refine wd_get (ci := 3) (v := .ref (A 8)) (C := RX3) (T := TX3) (N := 18) hx hb hts (by decide +kernel) hown hK.1 hW hR.1 rfl 14 (by decide) (hts (.fieldLink RX3 38 "CharRowsModel" "others" "[I") (by decide +kernel)) (fun _ h9 => h9) rfl dX3_copy_185 ?_
                                refine lv_iload hx hb dX3_copy_188 (lv_at hl 6 rfl) ?_
                                refine wd_iald hx hb hK.1 hW 0 hR.2.2.2.2.2.2.2.2.2.1 rfl (vp_in_nI (by omega) (by omega)) dX3_copy_190 ?_
                                refine wd_topE (y := gO k) (by rw [nI_clamp (by omega)]) ?_
                                refine wd_iast hx hb hK.1 hW hS 0 hR.2.2.2.2.2.1 rfl (vp_in_nI (by omega) (by omega)) dX3_copy_191 (fun H locs hW hS => ?_)
                                rw [nI_clamp (by omega)] at hW
                                obtain ⟨w_v1, hW, hR⟩ : ∃ w', wd_P D vwCl (wd_A w sg.heap.size) w' H ∧ rW cI m A (fun t => oI (tx t)) (kI kp) (fun r => (rs r).1) (fun r => nI (rs r).2.length) (upd (layN (240 * r_28 + jN) gO k fI) (240 * r_28 + jN + k) (gO k)) kp.length cd pl XD XP XU (gO, XO.2) XB w' := ⟨_, hW, hR.afI (upd (layN (240 * r_28 + jN) gO k fI) (240 * r_28 + jN + k) (gO k))⟩
                                refine lv_iinc (v := nI (k + 1)) (lv' := [(6, .int (nI (k + 1))), (0, .ref m), (1, .int (nI xN)), (2, .int (nI iN)), (3, .int (nI yN)), (4, .int (nI jN)), (5, .int (nI nN))]) hx hb dX3_copy_192 hl (k := 6) rfl (nI_add k 1) (by decide) rfl (fun ls hl => ?_)
                                refine lv_goto (tgt := 157) hx hb dX3_copy_195 (by decide) ?_
                                exact ih_157 (k + 1) H locs ls ⟨(by omega), ⟨_, hW, hR⟩, hS, (lv_sub hl [1, 2, 3, 4, 5, 6, 0] rfl)⟩ (by omega)
                            ·
                              have c_129 : ¬ (nN ≤ k) := fun q9 => absurd ((nI_leI (by omega) (by omega)).mpr q9) (show ¬ (nI nN ≤ nI k) from c_129)
                              refine lv_aload_n hx hb dX3_copy_132 rfl (lv_at hl 0 rfl) ?_
                              refine wd_get (ci := 3) (v := .ref (A 8)) (C := RX3) (T := TX3) (N := 18) hx hb hts (by decide +kernel) hown hK.1 hW hR.1 rfl 14 (by decide) (hts (.fieldLink RX3 38 "CharRowsModel" "others" "[I") (by decide +kernel)) (fun _ h9 => h9) rfl dX3_copy_133 ?_
                              refine lv_iload hx hb dX3_copy_136 (lv_at hl 6 rfl) ?_
                              refine lv_aload_n hx hb dX3_copy_138 rfl (lv_at hl 0 rfl) ?_
                              refine lv_iload_n hx hb dX3_copy_139 rfl (lv_at hl 1 rfl) ?_
                              refine lv_iload_n hx hb dX3_copy_140 rfl (lv_at hl 2 rfl) ?_
                              refine lv_iload hx hb dX3_copy_141 (lv_at hl 6 rfl) ?_
                              refine lv_iadd hx hb dX3_copy_143 ?_
                              refine wd_topE (y := nI (iN + k)) (nI_add _ _) ?_
                              refine wd_callVi (As := [.int (nI xN), .int (nI (iN + k))]) (rest := [.int (nI k), .ref (A 8)]) (c2 := 0) (s2 := 0) ⟨hx, hb, hml, hown, hts⟩ (k_X3_item l D cI cT w_l125 H.size m A (kI kp) (fun r => (rs r).1) (fun r => nI (rs r).2.length) fI kp.length cd pl XD XP XU (itN (fun j f => upd f j (lf (rs r_19).2 (iN + j))) k XO.1, XO.2) XB tx rs xN r_19 (iN + k) hR (by omega) htx_19 hr24_19 hit (by omega)) (cwV 2 hts gX3_copy_X3_item rfl rfl rfl (by decide +kernel) ⟨Nat.le_of_ble_eq_true rfl, Nat.le_of_ble_eq_true rfl⟩) gK_ok hK hW (wd_recv (ci := 3) hK.1 hW rfl hR.1) hS hA rfl hl.1 rfl (Nat.le_of_ble_eq_true rfl) dX3_copy_144 ⟨Nat.le_of_ble_eq_true rfl, Nat.le_of_ble_eq_true rfl⟩ rfl rfl (fun r_144 w_144 H locs hp_144 hW hz hS => ?_)
                              obtain ⟨q_r, q_w⟩ := hp_144
                              subst r_144
                              subst w_144
                              refine wd_iast hx hb hK.1 hW hS 0 hR.2.2.2.2.2.2.2.2.2.1 rfl (vp_in_nI (by omega) (by omega)) dX3_copy_147 (fun H locs hW hS => ?_)
                              rw [nI_clamp (by omega)] at hW
                              obtain ⟨w_v2, hW, hR⟩ : ∃ w', wd_P D vwCl (wd_A w sg.heap.size) w' H ∧ rW cI m A (fun t => oI (tx t)) (kI kp) (fun r => (rs r).1) (fun r => nI (rs r).2.length) fI kp.length cd pl XD XP XU ((upd (itN (fun j f => upd f j (lf (rs r_19).2 (iN + j))) k XO.1) k (lf (rs r_19).2 (iN + k))), XO.2) XB w' := ⟨_, hW, hR.aXO (upd (itN (fun j f => upd f j (lf (rs r_19).2 (iN + j))) k XO.1) k (lf (rs r_19).2 (iN + k)))⟩
                              refine lv_iinc (v := nI (k + 1)) (lv' := [(6, .int (nI (k + 1))), (0, .ref m), (1, .int (nI xN)), (2, .int (nI iN)), (3, .int (nI yN)), (4, .int (nI jN)), (5, .int (nI nN))]) hx hb dX3_copy_148 hl (k := 6) rfl (nI_add k 1) (by decide) rfl (fun ls hl => ?_)
                              refine lv_goto (tgt := 125) hx hb dX3_copy_151 (by decide) ?_
                              exact ih_125 (k + 1) H locs ls ⟨(by omega), ⟨_, hW, hR⟩, hS, (lv_sub hl [1, 2, 3, 4, 5, 6, 0] rfl)⟩ (by omega)
                          ·
                            simp only [i_le, Decidable.not_not] at c_113
                            have c_113 : (rs r_28).2.length < jN + nN := (lc (by omega) (by omega)).mp c_113
                            refine lv_aload_n hx hb dX3_copy_116 rfl (lv_at hl 0 rfl) ?_
                            refine lv_iconst (v := 3) hx hb dX3_copy_117 (by decide) ?_
                            refine wd_callVi (As := [.int 3]) (rest := []) (c2 := 0) (s2 := 0) ⟨hx, hb, hml, hown, hts⟩ (k_X3_no l D cI cT w H.size m A (fun t => oI (tx t)) (kI kp) (fun r => (rs r).1) (fun r => nI (rs r).2.length) fI kp.length cd pl XD XP XU XO XB 3 hR) (cwV 1 hts gX3_copy_X3_no rfl rfl rfl (by decide +kernel) ⟨Nat.le_of_ble_eq_true rfl, Nat.le_of_ble_eq_true rfl⟩) gK_ok hK hW (wd_recv (ci := 3) hK.1 hW rfl hR.1) hS hA rfl hl.1 rfl (Nat.le_of_ble_eq_true rfl) dX3_copy_118 ⟨Nat.le_of_ble_eq_true rfl, Nat.le_of_ble_eq_true rfl⟩ rfl rfl (fun r_118 w_118 H locs hp_118 hW hz hS => ?_)
                            obtain ⟨q_r, hR⟩ := hp_118
                            subst r_118
                            refine wd_iret hx hb hr hlocks hW hS dX3_copy_121 ?_
                            have e9 : s_copy (cd, pl, df, tx, kp, rs) (nI xN) (nI iN) (nI yN) (nI jN) (nI nN) = (0, 3, pl, df, tx, kp, rs) := by simp only [s_copy, if_neg (not_or.mpr ⟨c_4, c_11⟩), s_w2, s_no, s_rs, if_neg (not_or.mpr ⟨c_47, not_not_intro c_60⟩), if_pos (Or.inr (bey_yes (len := (rs r_28).2.length) (i := jN) (n := nN) (by omega) (by omega) (by omega))), hcl_x, hcl_y, hcl_i, hcl_j, hcl_n, htx_19, htx_28]
                            show _ = (s_copy (cd, pl, df, tx, kp, rs) (nI xN) (nI iN) (nI yN) (nI jN) (nI nN)).1 ∧ InvR cI m (s_copy (cd, pl, df, tx, kp, rs) (nI xN) (nI iN) (nI yN) (nI jN) (nI nN)).2 _
                            rw [e9]
                            exact ⟨rfl, A, fI, XD, XP, XU, XO, XB, hR, hdf, hit⟩
                ·
                  refine lv_aload_n hx hb dX3_copy_63 rfl (lv_at hl 0 rfl) ?_
                  refine lv_iconst (v := 2) hx hb dX3_copy_64 (by decide) ?_
                  refine wd_callVi (As := [.int 2]) (rest := []) (c2 := 0) (s2 := 0) ⟨hx, hb, hml, hown, hts⟩ (k_X3_no l D cI cT w H.size m A (fun t => oI (tx t)) (kI kp) (fun r => (rs r).1) (fun r => nI (rs r).2.length) fI kp.length cd pl XD XP XU XO XB 2 hR) (cwV 1 hts gX3_copy_X3_no rfl rfl rfl (by decide +kernel) ⟨Nat.le_of_ble_eq_true rfl, Nat.le_of_ble_eq_true rfl⟩) gK_ok hK hW (wd_recv (ci := 3) hK.1 hW rfl hR.1) hS hA rfl hl.1 rfl (Nat.le_of_ble_eq_true rfl) dX3_copy_65 ⟨Nat.le_of_ble_eq_true rfl, Nat.le_of_ble_eq_true rfl⟩ rfl rfl (fun r_65 w_65 H locs hp_65 hW hz hS => ?_)
                  obtain ⟨q_r, hR⟩ := hp_65
                  subst r_65
                  refine wd_iret hx hb hr hlocks hW hS dX3_copy_68 ?_
                  have e9 : s_copy (cd, pl, df, tx, kp, rs) (nI xN) i (nI yN) j n = (0, 2, pl, df, tx, kp, rs) := by simp only [s_copy, if_neg (not_or.mpr ⟨c_4, c_11⟩), s_w2, s_no, s_rs, if_pos (Or.inr c_60), hcl_x, hcl_y, htx_19, htx_28]
                  show _ = (s_copy (cd, pl, df, tx, kp, rs) (nI xN) i (nI yN) j n).1 ∧ InvR cI m (s_copy (cd, pl, df, tx, kp, rs) (nI xN) i (nI yN) j n).2 _
                  rw [e9]
                  exact ⟨rfl, A, fI, XD, XP, XU, XO, XB, hR, hdf, hit⟩
            ·
              exact absurd c_32 (hok _ _ htx_28).nm1
    ·
      have c_11 := nt_of (j_b0 c_11)
      refine lv_ldc (v := (-2000000001)) hx hb hown (hts (.constant RX3 107 (-2000000001)) (by decide +kernel)) dX3_copy_14 ?_
      refine wd_iret hx hb hr hlocks hW hS dX3_copy_16 ?_
      have e9 : s_copy (cd, pl, df, tx, kp, rs) (nI xN) i y j n = ((-2000000001), cd, pl, df, tx, kp, rs) := by simp only [s_copy, if_pos (Or.inr c_11), s_w2, s_no, s_rs, hcl_x]
      show _ = (s_copy (cd, pl, df, tx, kp, rs) (nI xN) i y j n).1 ∧ InvR cI m (s_copy (cd, pl, df, tx, kp, rs) (nI xN) i y j n).2 _
      rw [e9]
      exact ⟨rfl, A, fI, XD, XP, XU, XO, XB, hR, hdf, hit⟩
set_option maxHeartbeats 4000000 in
set_option maxRecDepth 100000 in
theorem k_X3_tell (l : Launch) (D : va_G) (cI cT : ClassId) (w : Wd) (sz : Nat) (m : Nat) (cd : Int32) (pl : Int32) (df : List Int32) (tx : Nat → Option Nat) (kp : List Nat) (rs : Rws) (t : Int32) (u : Int32) (form : Int32) (hwf : WF (cd, pl, df, tx, kp, rs)) (hI : InvR cI m (cd, pl, df, tx, kp, rs) w) : wd_Mi l D vwCl (gK D cI cT) yX3_tell wsX3_tell (wd_rm 4 0 0) [.ref m, .int t, .int u, .int form] w sz (fun r w' => r = (s_tell (cd, pl, df, tx, kp, rs) t u form).1 ∧ InvR cI m (s_tell (cd, pl, df, tx, kp, rs) t u form).2 w') := by
  refine wd_met (cc := cX3_tell) (maxL := 7) (ret := (some .int)) (by decide) rfl (Nat.le_of_ble_eq_true rfl) ?_
  intro pg ev sg mi bl mt cde ls C0 hsz hK hW hl
  obtain ⟨hx, hb, hr, hml, hown, hts, hlocks, hnm⟩ := C0
  subst hsz
  have hown : sg.vm.findClass RX3 = some mi.cls := hown
  have hS : va_S (wd_A w sg.heap.size) sg.heap sg.heap [] := va_S.rf
  have hA : ∀ q, sg.heap.size ≤ q → wd_A w sg.heap.size q := fun q h => Or.inr h
  have hl : lv_has ls 7 [(0, .ref m), (1, .int t), (2, .int u), (3, .int form)] := hl
  obtain ⟨A, fI, XD, XP, XU, XO, XB, hR, hdf, hit⟩ := hI
  dsimp only at hR hdf hit
  have h10 : ∀ t, 10 ≤ t → tx t = none := hwf.2.1
  have hkp : kp.length ≤ 12 := hwf.2.2.1
  have hlv : ∀ t r, tx t = some r → r < 24 := fun t r h => (hwf.2.2.2.1 r (Or.inl ⟨t, h⟩)).1
  have hok : ∀ t r, tx t = some r → rOK (rs r) := fun t r h => (hwf.2.2.2.1 r (Or.inl ⟨t, h⟩)).2
  have hk24 : ∀ r ∈ kp, r < 24 := fun r h => (hwf.2.2.2.1 r (Or.inr h)).1
  have hdl : df.length = XD.2 := by rw [← hdf, rl_len]
  have hd60 : df.length ≤ 60 := hwf.1.1
  refine lv_iload_n hx hb dX3_tell_0 rfl (lv_at hl 1 rfl) ?_
  refine wd_callSi (As := [.int t]) (rest := []) (c2 := 0) (s2 := 0) ⟨hx, hb, hml, hown, hts⟩ (k_X3_isText l D cI cT w sg.heap.size t ) (va_cwS 1 hts gX3_tell_X3_isText rfl rfl rfl (by decide +kernel) ⟨Nat.le_of_ble_eq_true rfl, Nat.le_of_ble_eq_true rfl⟩) gK_ok hK hW hS hA rfl hl.1 rfl (Nat.le_of_ble_eq_true rfl) dX3_tell_1 ⟨Nat.le_of_ble_eq_true rfl, Nat.le_of_ble_eq_true rfl⟩ rfl rfl (fun r_1 w_1 H locs hp_1 hW hz hS => ?_)
  obtain ⟨q_r, q_w⟩ := hp_1
  subst r_1
  subst w_1
  refine lv_if_eq (tgt := 23) hx hb dX3_tell_4 (by decide) (fun c_4 => ?_) (fun c_4 => ?_)
  ·
    have c_4 := nt_of (j_b0 c_4)
    refine lv_ldc (v := (-2000000001)) hx hb hown (hts (.constant RX3 107 (-2000000001)) (by decide +kernel)) dX3_tell_23 ?_
    refine wd_iret hx hb hr hlocks hW hS dX3_tell_25 ?_
    have e9 : s_tell (cd, pl, df, tx, kp, rs) t u form = ((-2000000001), cd, pl, df, tx, kp, rs) := by simp only [s_tell, if_pos (Or.inl c_4), s_w1, s_no, s_mk, s_brk]
    show _ = (s_tell (cd, pl, df, tx, kp, rs) t u form).1 ∧ InvR cI m (s_tell (cd, pl, df, tx, kp, rs) t u form).2 _
    rw [e9]
    exact ⟨rfl, A, fI, XD, XP, XU, XO, XB, hR, hdf, hit⟩
  ·
    have c_4 := j_bn c_4
    obtain ⟨tN, htN, htE⟩ := nt_spec c_4
    subst htE
    have hcl_t : (nI tN).toNatClampNeg = tN := nI_clamp (by omega)
    refine lv_iload_n hx hb dX3_tell_7 rfl (lv_at hl 2 rfl) ?_
    refine wd_callSi (As := [.int u]) (rest := []) (c2 := 0) (s2 := 0) ⟨hx, hb, hml, hown, hts⟩ (k_X3_isText l D cI cT w H.size u ) (va_cwS 1 hts gX3_tell_X3_isText rfl rfl rfl (by decide +kernel) ⟨Nat.le_of_ble_eq_true rfl, Nat.le_of_ble_eq_true rfl⟩) gK_ok hK hW hS hA rfl hl.1 rfl (Nat.le_of_ble_eq_true rfl) dX3_tell_8 ⟨Nat.le_of_ble_eq_true rfl, Nat.le_of_ble_eq_true rfl⟩ rfl rfl (fun r_8 w_8 H locs hp_8 hW hz hS => ?_)
    obtain ⟨q_r, q_w⟩ := hp_8
    subst r_8
    subst w_8
    refine lv_if_eq (tgt := 23) hx hb dX3_tell_11 (by decide) (fun c_11 => ?_) (fun c_11 => ?_)
    ·
      have c_11 := nt_of (j_b0 c_11)
      refine lv_ldc (v := (-2000000001)) hx hb hown (hts (.constant RX3 107 (-2000000001)) (by decide +kernel)) dX3_tell_23 ?_
      refine wd_iret hx hb hr hlocks hW hS dX3_tell_25 ?_
      have e9 : s_tell (cd, pl, df, tx, kp, rs) (nI tN) u form = ((-2000000001), cd, pl, df, tx, kp, rs) := by simp only [s_tell, if_pos (Or.inr (Or.inl c_11)), s_w1, s_no, s_mk, s_brk, hcl_t]
      show _ = (s_tell (cd, pl, df, tx, kp, rs) (nI tN) u form).1 ∧ InvR cI m (s_tell (cd, pl, df, tx, kp, rs) (nI tN) u form).2 _
      rw [e9]
      exact ⟨rfl, A, fI, XD, XP, XU, XO, XB, hR, hdf, hit⟩
    ·
      have c_11 := j_bn c_11
      obtain ⟨uN, huN, huE⟩ := nt_spec c_11
      subst huE
      have hcl_u : (nI uN).toNatClampNeg = uN := nI_clamp (by omega)
      refine lv_iload_n hx hb dX3_tell_14 rfl (lv_at hl 3 rfl) ?_
      refine lv_iconst (v := 0) hx hb dX3_tell_15 (by decide) ?_
      refine lv_iconst (v := 3) hx hb dX3_tell_16 (by decide) ?_
      refine wd_callSi (As := [.int form, .int 0, .int 3]) (rest := []) (c2 := 0) (s2 := 0) ⟨hx, hb, hml, hown, hts⟩ (k_X3_within l D cI cT w H.size form 0 3 ) (va_cwS 3 hts gX3_tell_X3_within rfl rfl rfl (by decide +kernel) ⟨Nat.le_of_ble_eq_true rfl, Nat.le_of_ble_eq_true rfl⟩) gK_ok hK hW hS hA rfl hl.1 rfl (Nat.le_of_ble_eq_true rfl) dX3_tell_17 ⟨Nat.le_of_ble_eq_true rfl, Nat.le_of_ble_eq_true rfl⟩ rfl rfl (fun r_17 w_17 H locs hp_17 hW hz hS => ?_)
      obtain ⟨q_r, q_w⟩ := hp_17
      subst r_17
      subst w_17
      refine lv_if_ne (tgt := 26) hx hb dX3_tell_20 (by decide) (fun c_20 => ?_) (fun c_20 => ?_)
      ·
        have c_20 := (w_form form).mp (j_bn c_20)
        refine lv_aload_n hx hb dX3_tell_26 rfl (lv_at hl 0 rfl) ?_
        refine lv_iload_n hx hb dX3_tell_27 rfl (lv_at hl 2 rfl) ?_
        refine wd_callVi (As := [.int (nI uN)]) (rest := []) (c2 := 0) (s2 := 0) ⟨hx, hb, hml, hown, hts⟩ (k_X3_wantsPoints l D cI cT w H.size m A (kI kp) (fun r => nI (rs r).2.length) fI kp.length cd pl XD XP XU XO XB tx rs uN hR (by omega) hlv hok) (cwV 1 hts gX3_tell_X3_wantsPoints rfl rfl rfl (by decide +kernel) ⟨Nat.le_of_ble_eq_true rfl, Nat.le_of_ble_eq_true rfl⟩) gK_ok hK hW (wd_recv (ci := 3) hK.1 hW rfl hR.1) hS hA rfl hl.1 rfl (Nat.le_of_ble_eq_true rfl) dX3_tell_28 ⟨Nat.le_of_ble_eq_true rfl, Nat.le_of_ble_eq_true rfl⟩ rfl rfl (fun r_28 w_28 H locs hp_28 hW hz hS => ?_)
        obtain ⟨q_r, q_w⟩ := hp_28
        subst r_28
        subst w_28
        cases htx_28 : tx uN with
        | none =>
          refine wd_topE (y := 1) rfl ?_
          refine lv_istore (lv' := [(4, .int 1), (0, .ref m), (1, .int (nI tN)), (2, .int (nI uN)), (3, .int form)]) hx hb dX3_tell_31 hl (by decide) rfl (fun ls hl => ?_)
          refine lv_iload hx hb dX3_tell_33 (lv_at hl 0 rfl) ?_
          refine lv_if_eq (tgt := 45) hx hb dX3_tell_35 (by decide) (fun c_35 => ?_) (fun c_35 => ?_)
          ·
            exact absurd c_35 (by decide)
          ·
            refine lv_aload_n hx hb dX3_tell_38 rfl (lv_at hl 1 rfl) ?_
            refine lv_iload hx hb dX3_tell_39 (lv_at hl 0 rfl) ?_
            refine wd_callVi (As := [.int 1]) (rest := []) (c2 := 0) (s2 := 0) ⟨hx, hb, hml, hown, hts⟩ (k_X3_no l D cI cT w H.size m A (fun t => oI (tx t)) (kI kp) (fun r => (rs r).1) (fun r => nI (rs r).2.length) fI kp.length cd pl XD XP XU XO XB 1 hR) (cwV 1 hts gX3_tell_X3_no rfl rfl rfl (by decide +kernel) ⟨Nat.le_of_ble_eq_true rfl, Nat.le_of_ble_eq_true rfl⟩) gK_ok hK hW (wd_recv (ci := 3) hK.1 hW rfl hR.1) hS hA rfl hl.1 rfl (Nat.le_of_ble_eq_true rfl) dX3_tell_41 ⟨Nat.le_of_ble_eq_true rfl, Nat.le_of_ble_eq_true rfl⟩ rfl rfl (fun r_41 w_41 H locs hp_41 hW hz hS => ?_)
            obtain ⟨q_r, hR⟩ := hp_41
            subst r_41
            refine wd_iret hx hb hr hlocks hW hS dX3_tell_44 ?_
            have e9 : s_tell (cd, pl, df, tx, kp, rs) (nI tN) (nI uN) form = (0, 1, pl, df, tx, kp, rs) := by simp only [s_tell, if_neg (not_or.mpr ⟨c_4, (not_or.mpr ⟨c_11, c_20⟩)⟩), s_w1, s_no, s_mk, s_brk, hcl_t, hcl_u, htx_28]
            show _ = (s_tell (cd, pl, df, tx, kp, rs) (nI tN) (nI uN) form).1 ∧ InvR cI m (s_tell (cd, pl, df, tx, kp, rs) (nI tN) (nI uN) form).2 _
            rw [e9]
            exact ⟨rfl, A, fI, XD, XP, XU, XO, XB, hR, hdf, hit⟩
        | some r_28 =>
          have hr24_28 := hlv _ _ htx_28
          have hok_28 := hok _ _ htx_28
          by_cases hkd : (rs r_28).1 = 2
          ·
            refine wd_topE (y := 2) (by show (if (rs r_28).1 = 2 then _ else _) = _; rw [if_pos hkd]) ?_
            refine lv_istore (lv' := [(4, .int 2), (0, .ref m), (1, .int (nI tN)), (2, .int (nI uN)), (3, .int form)]) hx hb dX3_tell_31 hl (by decide) rfl (fun ls hl => ?_)
            refine lv_iload hx hb dX3_tell_33 (lv_at hl 0 rfl) ?_
            refine lv_if_eq (tgt := 45) hx hb dX3_tell_35 (by decide) (fun c_35 => ?_) (fun c_35 => ?_)
            ·
              exact absurd c_35 (by decide)
            ·
              refine lv_aload_n hx hb dX3_tell_38 rfl (lv_at hl 1 rfl) ?_
              refine lv_iload hx hb dX3_tell_39 (lv_at hl 0 rfl) ?_
              refine wd_callVi (As := [.int 2]) (rest := []) (c2 := 0) (s2 := 0) ⟨hx, hb, hml, hown, hts⟩ (k_X3_no l D cI cT w H.size m A (fun t => oI (tx t)) (kI kp) (fun r => (rs r).1) (fun r => nI (rs r).2.length) fI kp.length cd pl XD XP XU XO XB 2 hR) (cwV 1 hts gX3_tell_X3_no rfl rfl rfl (by decide +kernel) ⟨Nat.le_of_ble_eq_true rfl, Nat.le_of_ble_eq_true rfl⟩) gK_ok hK hW (wd_recv (ci := 3) hK.1 hW rfl hR.1) hS hA rfl hl.1 rfl (Nat.le_of_ble_eq_true rfl) dX3_tell_41 ⟨Nat.le_of_ble_eq_true rfl, Nat.le_of_ble_eq_true rfl⟩ rfl rfl (fun r_41 w_41 H locs hp_41 hW hz hS => ?_)
              obtain ⟨q_r, hR⟩ := hp_41
              subst r_41
              refine wd_iret hx hb hr hlocks hW hS dX3_tell_44 ?_
              have e9 : s_tell (cd, pl, df, tx, kp, rs) (nI tN) (nI uN) form = (0, 2, pl, df, tx, kp, rs) := by simp only [s_tell, if_neg (not_or.mpr ⟨c_4, (not_or.mpr ⟨c_11, c_20⟩)⟩), s_w1, s_no, s_mk, s_brk, if_pos hkd, hcl_t, hcl_u, htx_28]
              show _ = (s_tell (cd, pl, df, tx, kp, rs) (nI tN) (nI uN) form).1 ∧ InvR cI m (s_tell (cd, pl, df, tx, kp, rs) (nI tN) (nI uN) form).2 _
              rw [e9]
              exact ⟨rfl, A, fI, XD, XP, XU, XO, XB, hR, hdf, hit⟩
          ·
            refine wd_topE (y := 0) (by show (if (rs r_28).1 = 2 then _ else _) = _; rw [if_neg hkd]) ?_
            have hl60 := hok_28.len2 hkd
            refine lv_istore (lv' := [(4, .int 0), (0, .ref m), (1, .int (nI tN)), (2, .int (nI uN)), (3, .int form)]) hx hb dX3_tell_31 hl (by decide) rfl (fun ls hl => ?_)
            refine lv_iload hx hb dX3_tell_33 (lv_at hl 0 rfl) ?_
            refine lv_if_eq (tgt := 45) hx hb dX3_tell_35 (by decide) (fun c_35 => ?_) (fun c_35 => ?_)
            ·
              refine lv_aload_n hx hb dX3_tell_45 rfl (lv_at hl 1 rfl) ?_
              refine lv_iload_n hx hb dX3_tell_46 rfl (lv_at hl 3 rfl) ?_
              refine wd_callVv (As := [.int (nI uN)]) (rest := []) (c2 := 0) (s2 := 0) ⟨hx, hb, hml, hown, hts⟩ (k_X3_take l D cI cT w H.size m A (kI kp) fI kp.length cd pl XD XP XU XO XB tx rs uN r_28 hR (by omega) htx_28 hr24_28 hlv hit (hok _ _ htx_28) hkd) (cwV 1 hts gX3_tell_X3_take rfl rfl rfl (by decide +kernel) ⟨Nat.le_of_ble_eq_true rfl, Nat.le_of_ble_eq_true rfl⟩) gK_ok hK hW (wd_recv (ci := 3) hK.1 hW rfl hR.1) hS hA rfl hl.1 rfl (Nat.le_of_ble_eq_true rfl) dX3_tell_47 ⟨Nat.le_of_ble_eq_true rfl, Nat.le_of_ble_eq_true rfl⟩ rfl rfl (fun w_47 H locs hp_47 hW hz hS => ?_)
              obtain ⟨Y_47, Z_47, hY_47, hZ_47, hR⟩ := hp_47
              have hYc_47 := rl_cnt hY_47
              have hZc_47 := rl_cnt hZ_47
              have hYl_47 := u_pl_len (rs r_28).1 (rs r_28).2
              have hZl_47 := u_ul_len (rs r_28).1 (rs r_28).2
              refine lv_aload_n hx hb dX3_tell_50 rfl (lv_at hl 1 rfl) ?_
              refine lv_iconst (v := 0) hx hb dX3_tell_51 (by decide) ?_
              refine wd_put (ci := 3) (v := .int 0) (ty := .int) (C := RX3) (T := TX3) (N := 18) hx hb hts (by decide +kernel) tyX3 tyX3_ok nmX3 hown hK.1 hW hS hR.1 rfl 16 (by decide) (hts (.fieldLink RX3 125 "CharRowsModel" "bytesMany" "I") (by decide +kernel)) (fun _ h9 => h9) rfl (by decide +kernel) rfl rfl (Nat.le_of_ble_eq_true rfl) dX3_tell_52 (fun H locs hW hS => ?_)
              obtain ⟨w_v1, hW, hR⟩ : ∃ w', wd_P D vwCl (wd_A w sg.heap.size) w' H ∧ rW cI m A (fun t => oI (tx t)) (kI kp) (fun r => (rs r).1) (fun r => nI (rs r).2.length) fI kp.length cd pl XD Y_47 Z_47 XO (XB.1, 0) w' := ⟨_, hW, hR.cXB 0⟩
              refine lv_iload_n hx hb dX3_tell_55 rfl (lv_at hl 4 rfl) ?_
              refine lv_iconst (v := 1) hx hb dX3_tell_56 (by decide) ?_
              refine lv_icmp_eq (tgt := 65) hx hb dX3_tell_57 (by decide) (fun c_57 => ?_) (fun c_57 => ?_)
              ·
                refine lv_iconst (v := 0) hx hb dX3_tell_65 (by decide) ?_
                refine lv_istore (lv' := [(5, .int 0), (4, .int 0), (0, .ref m), (1, .int (nI tN)), (2, .int (nI uN)), (3, .int form)]) hx hb dX3_tell_66 hl (by decide) rfl (fun ls hl => ?_)
                refine wd_loop1 (fun (k : Nat) (H : Heap) (locs : List Loc) (ls : Array Slot) => (k ≤ Z_47.2) ∧ (∃ w', wd_P D vwCl (wd_A w sg.heap.size) w' H ∧ rW cI m A (fun t => oI (tx t)) (kI kp) (fun r => (rs r).1) (fun r => nI (rs r).2.length) fI kp.length cd pl XD Y_47 Z_47 XO (itN (fun k Y => r_tu1 480 form (Z_47.1 k) Y) k (XB.1, 0)) w') ∧ va_S (wd_A w sg.heap.size) sg.heap H locs ∧ lv_has ls 7 [(0, .ref m), (1, .int (nI tN)), (2, .int (nI uN)), (3, .int form), (5, .int (nI k))]) (fun (k : Nat) => Z_47.2 - k) 0 ⟨(by omega), ⟨_, hW, hR⟩, hS, (lv_sub hl [2, 3, 4, 5, 0] rfl)⟩ (fun k H locs ls hI ih_68 => ?_)
                obtain ⟨hk, ⟨w_l68, hW, hR⟩, hS, hl⟩ := hI
                have hbc := itT_cnt (form := form) (X := Z_47) (f := XB.1) k
                refine lv_iload hx hb dX3_tell_68 (lv_at hl 4 rfl) ?_
                refine lv_aload_n hx hb dX3_tell_70 rfl (lv_at hl 0 rfl) ?_
                refine wd_get (ci := 3) (v := .int (nI Z_47.2)) (C := RX3) (T := TX3) (N := 18) hx hb hts (by decide +kernel) hown hK.1 hW hR.1 rfl 13 (by decide) (hts (.fieldLink RX3 71 "CharRowsModel" "unitMany" "I") (by decide +kernel)) (fun _ h9 => h9) rfl dX3_tell_71 ?_
                refine lv_icmp_ge (tgt := 151) hx hb dX3_tell_74 (by decide) (fun c_74 => ?_) (fun c_74 => ?_)
                ·
                  have c_74 : Z_47.2 ≤ k := (nI_leI (by omega) (by omega)).mp (show (nI Z_47.2 ≤ nI k) from c_74)
                  refine lv_aload_n hx hb dX3_tell_151 rfl (lv_at hl 0 rfl) ?_
                  refine lv_iload_n hx hb dX3_tell_152 rfl (lv_at hl 1 rfl) ?_
                  refine lv_iconst (v := 2) hx hb dX3_tell_153 (by decide) ?_
                  refine lv_aload_n hx hb dX3_tell_154 rfl (lv_at hl 0 rfl) ?_
                  refine wd_get (ci := 3) (v := .ref (A 9)) (C := RX3) (T := TX3) (N := 18) hx hb hts (by decide +kernel) hown hK.1 hW hR.1 rfl 17 (by decide) (hts (.fieldLink RX3 41 "CharRowsModel" "bytes" "[I") (by decide +kernel)) (fun _ h9 => h9) rfl dX3_tell_155 ?_
                  refine lv_aload_n hx hb dX3_tell_158 rfl (lv_at hl 0 rfl) ?_
                  refine wd_get (ci := 3) (v := .int (nI ((itN (fun k Y => r_tu1 480 form (Z_47.1 k) Y) k (XB.1, 0)).2))) (C := RX3) (T := TX3) (N := 18) hx hb hts (by decide +kernel) hown hK.1 hW hR.1 rfl 16 (by decide) (hts (.fieldLink RX3 125 "CharRowsModel" "bytesMany" "I") (by decide +kernel)) (fun _ h9 => h9) rfl dX3_tell_159 ?_
                  refine wd_callVi (As := [.int (nI tN), .int 2, .ref (A 9), .int (nI ((itN (fun k Y => r_tu1 480 form (Z_47.1 k) Y) k (XB.1, 0)).2))]) (rest := []) (c2 := 0) (s2 := 0) ⟨hx, hb, hml, hown, hts⟩ (k_X3_become9 l D cI cT w_l68 H.size m A fI cd pl XD Y_47 Z_47 XO (itN (fun k Y => r_tu1 480 form (Z_47.1 k) Y) k (XB.1, 0)) tx kp rs tN 2 ((itN (fun k Y => r_tu1 480 form (Z_47.1 k) Y) k (XB.1, 0)).2) hR (by omega) h10 hkp hlv hk24 hit (by omega)) (cwV 4 hts gX3_tell_X3_become rfl rfl rfl (by decide +kernel) ⟨Nat.le_of_ble_eq_true rfl, Nat.le_of_ble_eq_true rfl⟩) gK_ok hK hW (wd_recv (ci := 3) hK.1 hW rfl hR.1) hS hA rfl hl.1 rfl (Nat.le_of_ble_eq_true rfl) dX3_tell_162 ⟨Nat.le_of_ble_eq_true rfl, Nat.le_of_ble_eq_true rfl⟩ rfl rfl (fun r_162 w_162 H locs hp_162 hW hz hS => ?_)
                  obtain ⟨q_r, f_162, hit_162, hR⟩ := hp_162
                  subst r_162
                  refine wd_iret hx hb hr hlocks hW hS dX3_tell_165 ?_
                  have e9 : s_tell (cd, pl, df, tx, kp, rs) (nI tN) (nI uN) form = (nI ((itN (fun k Y => r_tu1 480 form (Z_47.1 k) Y) k (XB.1, 0)).2), 0, pl, df, (va_up tx tN (some (u_free tx kp))), kp, (va_up rs (u_free tx kp) (2, (rl ((itN (fun k Y => r_tu1 480 form (Z_47.1 k) Y) k (XB.1, 0)).1, (itN (fun k Y => r_tu1 480 form (Z_47.1 k) Y) k (XB.1, 0)).2))))) := by simp only [s_tell, if_neg (not_or.mpr ⟨c_4, (not_or.mpr ⟨c_11, c_20⟩)⟩), s_w1, s_no, s_mk, s_brk, if_neg hkd, if_pos (Or.inl c_57), hcl_t, hcl_u, htx_28]; rw [show (rl ((itN (fun k Y => r_tu1 480 form (Z_47.1 k) Y) k (XB.1, 0)).1, (itN (fun k Y => r_tu1 480 form (Z_47.1 k) Y) k (XB.1, 0)).2)) = (u_ul (rs r_28).1 (rs r_28).2).flatMap (u_tu form) from by rw [rl_eta, show k = Z_47.2 by omega, rl_itX (n := 480) (b := 2) (φ := u_tu form) (fun x => Nat.le_refl 2) (fun k _ Y hY => rl_tu1 hY) (by show 0 + _ ≤ 480; omega), hZ_47]; rfl]; rw [show (itN (fun k Y => r_tu1 480 form (Z_47.1 k) Y) k (XB.1, 0)).2 = ((u_ul (rs r_28).1 (rs r_28).2).flatMap (u_tu form)).length from rl_cnt (by rw [show k = Z_47.2 by omega, rl_itX (n := 480) (b := 2) (φ := u_tu form) (fun x => Nat.le_refl 2) (fun k _ Y hY => rl_tu1 hY) (by show 0 + _ ≤ 480; omega), hZ_47]; rfl)]; first | done | rfl
                  show _ = (s_tell (cd, pl, df, tx, kp, rs) (nI tN) (nI uN) form).1 ∧ InvR cI m (s_tell (cd, pl, df, tx, kp, rs) (nI tN) (nI uN) form).2 _
                  rw [e9]
                  exact ⟨rfl, A, f_162, XD, Y_47, Z_47, XO, (itN (fun k Y => r_tu1 480 form (Z_47.1 k) Y) k (XB.1, 0)), hR, hdf, hit_162⟩
                ·
                  have c_74 : ¬ (Z_47.2 ≤ k) := fun q9 => absurd ((nI_leI (by omega) (by omega)).mpr q9) (show ¬ (nI Z_47.2 ≤ nI k) from c_74)
                  refine lv_aload_n hx hb dX3_tell_77 rfl (lv_at hl 0 rfl) ?_
                  refine lv_iload_n hx hb dX3_tell_78 rfl (lv_at hl 3 rfl) ?_
                  refine lv_iconst (v := 1) hx hb dX3_tell_79 (by decide) ?_
                  refine lv_icmp_ne (tgt := 97) hx hb dX3_tell_80 (by decide) (fun c_80 => ?_) (fun c_80 => ?_)
                  ·
                    refine lv_aload_n hx hb dX3_tell_97 rfl (lv_at hl 0 rfl) ?_
                    refine wd_get (ci := 3) (v := .ref (A 7)) (C := RX3) (T := TX3) (N := 18) hx hb hts (by decide +kernel) hown hK.1 hW hR.1 rfl 12 (by decide) (hts (.fieldLink RX3 35 "CharRowsModel" "units" "[I") (by decide +kernel)) (fun _ h9 => h9) rfl dX3_tell_98 ?_
                    refine lv_iload hx hb dX3_tell_101 (lv_at hl 4 rfl) ?_
                    refine wd_iald hx hb hK.1 hW 0 hR.2.2.2.2.2.2.2.2.1 rfl (vp_in_nI (by omega) (by omega)) dX3_tell_103 ?_
                    refine wd_topE (y := Z_47.1 k) (by rw [nI_clamp (by omega)]) ?_
                    refine lv_sipush (v := 256) hx hb dX3_tell_104 (by decide) ?_
                    refine lv_irem hx hb dX3_tell_107 (by decide) ?_
                    refine wd_callVv (As := [.int ((Z_47.1 k) - (Z_47.1 k) / 256 * 256)]) (rest := []) (c2 := 0) (s2 := 0) ⟨hx, hb, hml, hown, hts⟩ (k_X3_addByte l D cI cT w_l68 H.size m A (fun t => oI (tx t)) (kI kp) (fun r => (rs r).1) (fun r => nI (rs r).2.length) fI kp.length cd pl XD Y_47 Z_47 XO (itN (fun k Y => r_tu1 480 form (Z_47.1 k) Y) k (XB.1, 0)) ((Z_47.1 k) - (Z_47.1 k) / 256 * 256) hR (by omega)) (cwV 1 hts gX3_tell_X3_addByte rfl rfl rfl (by decide +kernel) ⟨Nat.le_of_ble_eq_true rfl, Nat.le_of_ble_eq_true rfl⟩) gK_ok hK hW (wd_recv (ci := 3) hK.1 hW rfl hR.1) hS hA rfl hl.1 rfl (Nat.le_of_ble_eq_true rfl) dX3_tell_108 ⟨Nat.le_of_ble_eq_true rfl, Nat.le_of_ble_eq_true rfl⟩ rfl rfl (fun w_108 H locs hp_108 hW hz hS => ?_)
                    have hR := hp_108
                    have hcb_108 := r_add_cnt (n := 480) (x := (Z_47.1 k) - (Z_47.1 k) / 256 * 256) (X := (itN (fun k Y => r_tu1 480 form (Z_47.1 k) Y) k (XB.1, 0))) (by omega)
                    refine lv_aload_n hx hb dX3_tell_111 rfl (lv_at hl 0 rfl) ?_
                    refine lv_iload_n hx hb dX3_tell_112 rfl (lv_at hl 3 rfl) ?_
                    refine lv_iconst (v := 1) hx hb dX3_tell_113 (by decide) ?_
                    refine lv_icmp_ne (tgt := 131) hx hb dX3_tell_114 (by decide) (fun c_114 => ?_) (fun c_114 => ?_)
                    ·
                      refine lv_aload_n hx hb dX3_tell_131 rfl (lv_at hl 0 rfl) ?_
                      refine wd_get (ci := 3) (v := .ref (A 7)) (C := RX3) (T := TX3) (N := 18) hx hb hts (by decide +kernel) hown hK.1 hW hR.1 rfl 12 (by decide) (hts (.fieldLink RX3 35 "CharRowsModel" "units" "[I") (by decide +kernel)) (fun _ h9 => h9) rfl dX3_tell_132 ?_
                      refine lv_iload hx hb dX3_tell_135 (lv_at hl 4 rfl) ?_
                      refine wd_iald hx hb hK.1 hW 0 hR.2.2.2.2.2.2.2.2.1 rfl (vp_in_nI (by omega) (by omega)) dX3_tell_137 ?_
                      refine wd_topE (y := Z_47.1 k) (by rw [nI_clamp (by omega)]) ?_
                      refine lv_sipush (v := 256) hx hb dX3_tell_138 (by decide) ?_
                      refine lv_idiv hx hb dX3_tell_141 (by decide) ?_
                      refine wd_callVv (As := [.int ((Z_47.1 k) / 256)]) (rest := []) (c2 := 0) (s2 := 0) ⟨hx, hb, hml, hown, hts⟩ (k_X3_addByte l D cI cT w_108 H.size m A (fun t => oI (tx t)) (kI kp) (fun r => (rs r).1) (fun r => nI (rs r).2.length) fI kp.length cd pl XD Y_47 Z_47 XO (r_add 480 ((Z_47.1 k) - (Z_47.1 k) / 256 * 256) (itN (fun k Y => r_tu1 480 form (Z_47.1 k) Y) k (XB.1, 0))) ((Z_47.1 k) / 256) hR (by omega)) (cwV 1 hts gX3_tell_X3_addByte rfl rfl rfl (by decide +kernel) ⟨Nat.le_of_ble_eq_true rfl, Nat.le_of_ble_eq_true rfl⟩) gK_ok hK hW (wd_recv (ci := 3) hK.1 hW rfl hR.1) hS hA rfl hl.1 rfl (Nat.le_of_ble_eq_true rfl) dX3_tell_142 ⟨Nat.le_of_ble_eq_true rfl, Nat.le_of_ble_eq_true rfl⟩ rfl rfl (fun w_142 H locs hp_142 hW hz hS => ?_)
                      have hR := hp_142
                      have hcb_142 := r_add_cnt (n := 480) (x := (Z_47.1 k) / 256) (X := (r_add 480 ((Z_47.1 k) - (Z_47.1 k) / 256 * 256) (itN (fun k Y => r_tu1 480 form (Z_47.1 k) Y) k (XB.1, 0)))) (by omega)
                      refine lv_iinc (v := nI (k + 1)) (lv' := [(5, .int (nI (k + 1))), (0, .ref m), (1, .int (nI tN)), (2, .int (nI uN)), (3, .int form)]) hx hb dX3_tell_145 hl (k := 4) rfl (nI_add k 1) (by decide) rfl (fun ls hl => ?_)
                      refine lv_goto (tgt := 68) hx hb dX3_tell_148 (by decide) ?_
                      exact ih_68 (k + 1) H locs ls ⟨(by omega), ⟨_, hW, (by rw [show itN (fun k Y => r_tu1 480 form (Z_47.1 k) Y) (k + 1) (XB.1, 0) = _ from by (show r_tu1 480 form (Z_47.1 k) _ = _; rw [r_tu1, if_neg c_80, if_neg c_80])]; exact hR)⟩, hS, (lv_sub hl [1, 2, 3, 4, 0] rfl)⟩ (by omega)
                    ·
                      exact absurd c_114 c_80
                  ·
                    refine lv_aload_n hx hb dX3_tell_83 rfl (lv_at hl 0 rfl) ?_
                    refine wd_get (ci := 3) (v := .ref (A 7)) (C := RX3) (T := TX3) (N := 18) hx hb hts (by decide +kernel) hown hK.1 hW hR.1 rfl 12 (by decide) (hts (.fieldLink RX3 35 "CharRowsModel" "units" "[I") (by decide +kernel)) (fun _ h9 => h9) rfl dX3_tell_84 ?_
                    refine lv_iload hx hb dX3_tell_87 (lv_at hl 4 rfl) ?_
                    refine wd_iald hx hb hK.1 hW 0 hR.2.2.2.2.2.2.2.2.1 rfl (vp_in_nI (by omega) (by omega)) dX3_tell_89 ?_
                    refine wd_topE (y := Z_47.1 k) (by rw [nI_clamp (by omega)]) ?_
                    refine lv_sipush (v := 256) hx hb dX3_tell_90 (by decide) ?_
                    refine lv_idiv hx hb dX3_tell_93 (by decide) ?_
                    refine lv_goto (tgt := 108) hx hb dX3_tell_94 (by decide) ?_
                    refine wd_callVv (As := [.int ((Z_47.1 k) / 256)]) (rest := []) (c2 := 0) (s2 := 0) ⟨hx, hb, hml, hown, hts⟩ (k_X3_addByte l D cI cT w_l68 H.size m A (fun t => oI (tx t)) (kI kp) (fun r => (rs r).1) (fun r => nI (rs r).2.length) fI kp.length cd pl XD Y_47 Z_47 XO (itN (fun k Y => r_tu1 480 form (Z_47.1 k) Y) k (XB.1, 0)) ((Z_47.1 k) / 256) hR (by omega)) (cwV 1 hts gX3_tell_X3_addByte rfl rfl rfl (by decide +kernel) ⟨Nat.le_of_ble_eq_true rfl, Nat.le_of_ble_eq_true rfl⟩) gK_ok hK hW (wd_recv (ci := 3) hK.1 hW rfl hR.1) hS hA rfl hl.1 rfl (Nat.le_of_ble_eq_true rfl) dX3_tell_108 ⟨Nat.le_of_ble_eq_true rfl, Nat.le_of_ble_eq_true rfl⟩ rfl rfl (fun w_108 H locs hp_108 hW hz hS => ?_)
                    have hR := hp_108
                    have hcb_108 := r_add_cnt (n := 480) (x := (Z_47.1 k) / 256) (X := (itN (fun k Y => r_tu1 480 form (Z_47.1 k) Y) k (XB.1, 0))) (by omega)
                    refine lv_aload_n hx hb dX3_tell_111 rfl (lv_at hl 0 rfl) ?_
                    refine lv_iload_n hx hb dX3_tell_112 rfl (lv_at hl 3 rfl) ?_
                    refine lv_iconst (v := 1) hx hb dX3_tell_113 (by decide) ?_
                    refine lv_icmp_ne (tgt := 131) hx hb dX3_tell_114 (by decide) (fun c_114 => ?_) (fun c_114 => ?_)
                    ·
                      exact absurd c_80 c_114
                    ·
                      refine lv_aload_n hx hb dX3_tell_117 rfl (lv_at hl 0 rfl) ?_
                      refine wd_get (ci := 3) (v := .ref (A 7)) (C := RX3) (T := TX3) (N := 18) hx hb hts (by decide +kernel) hown hK.1 hW hR.1 rfl 12 (by decide) (hts (.fieldLink RX3 35 "CharRowsModel" "units" "[I") (by decide +kernel)) (fun _ h9 => h9) rfl dX3_tell_118 ?_
                      refine lv_iload hx hb dX3_tell_121 (lv_at hl 4 rfl) ?_
                      refine wd_iald hx hb hK.1 hW 0 hR.2.2.2.2.2.2.2.2.1 rfl (vp_in_nI (by omega) (by omega)) dX3_tell_123 ?_
                      refine wd_topE (y := Z_47.1 k) (by rw [nI_clamp (by omega)]) ?_
                      refine lv_sipush (v := 256) hx hb dX3_tell_124 (by decide) ?_
                      refine lv_irem hx hb dX3_tell_127 (by decide) ?_
                      refine lv_goto (tgt := 142) hx hb dX3_tell_128 (by decide) ?_
                      refine wd_callVv (As := [.int ((Z_47.1 k) - (Z_47.1 k) / 256 * 256)]) (rest := []) (c2 := 0) (s2 := 0) ⟨hx, hb, hml, hown, hts⟩ (k_X3_addByte l D cI cT w_108 H.size m A (fun t => oI (tx t)) (kI kp) (fun r => (rs r).1) (fun r => nI (rs r).2.length) fI kp.length cd pl XD Y_47 Z_47 XO (r_add 480 ((Z_47.1 k) / 256) (itN (fun k Y => r_tu1 480 form (Z_47.1 k) Y) k (XB.1, 0))) ((Z_47.1 k) - (Z_47.1 k) / 256 * 256) hR (by omega)) (cwV 1 hts gX3_tell_X3_addByte rfl rfl rfl (by decide +kernel) ⟨Nat.le_of_ble_eq_true rfl, Nat.le_of_ble_eq_true rfl⟩) gK_ok hK hW (wd_recv (ci := 3) hK.1 hW rfl hR.1) hS hA rfl hl.1 rfl (Nat.le_of_ble_eq_true rfl) dX3_tell_142 ⟨Nat.le_of_ble_eq_true rfl, Nat.le_of_ble_eq_true rfl⟩ rfl rfl (fun w_142 H locs hp_142 hW hz hS => ?_)
                      have hR := hp_142
                      have hcb_142 := r_add_cnt (n := 480) (x := (Z_47.1 k) - (Z_47.1 k) / 256 * 256) (X := (r_add 480 ((Z_47.1 k) / 256) (itN (fun k Y => r_tu1 480 form (Z_47.1 k) Y) k (XB.1, 0)))) (by omega)
                      refine lv_iinc (v := nI (k + 1)) (lv' := [(5, .int (nI (k + 1))), (0, .ref m), (1, .int (nI tN)), (2, .int (nI uN)), (3, .int form)]) hx hb dX3_tell_145 hl (k := 4) rfl (nI_add k 1) (by decide) rfl (fun ls hl => ?_)
                      refine lv_goto (tgt := 68) hx hb dX3_tell_148 (by decide) ?_
                      exact ih_68 (k + 1) H locs ls ⟨(by omega), ⟨_, hW, (by rw [show itN (fun k Y => r_tu1 480 form (Z_47.1 k) Y) (k + 1) (XB.1, 0) = _ from by (show r_tu1 480 form (Z_47.1 k) _ = _; rw [r_tu1, if_pos c_80, if_pos c_80])]; exact hR)⟩, hS, (lv_sub hl [1, 2, 3, 4, 0] rfl)⟩ (by omega)
              ·
                refine lv_iload_n hx hb dX3_tell_60 rfl (lv_at hl 4 rfl) ?_
                refine lv_iconst (v := 2) hx hb dX3_tell_61 (by decide) ?_
                refine lv_icmp_ne (tgt := 166) hx hb dX3_tell_62 (by decide) (fun c_62 => ?_) (fun c_62 => ?_)
                ·
                  refine lv_iconst (v := 0) hx hb dX3_tell_166 (by decide) ?_
                  refine lv_istore (lv' := [(5, .int 0), (4, .int 0), (0, .ref m), (1, .int (nI tN)), (2, .int (nI uN)), (3, .int form)]) hx hb dX3_tell_167 hl (by decide) rfl (fun ls hl => ?_)
                  refine wd_loop1 (fun (k : Nat) (H : Heap) (locs : List Loc) (ls : Array Slot) => (k ≤ Y_47.2) ∧ (j_srch (fun k => j_bad form (Y_47.1 k)) Y_47.2 0 = j_srch (fun k => j_bad form (Y_47.1 k)) (Y_47.2 - k) k) ∧ (∃ w', wd_P D vwCl (wd_A w sg.heap.size) w' H ∧ rW cI m A (fun t => oI (tx t)) (kI kp) (fun r => (rs r).1) (fun r => nI (rs r).2.length) fI kp.length cd pl XD Y_47 Z_47 XO (itN (fun k Y => if form = 3 then r_add 480 (Y_47.1 k) Y else r_mb 480 (Y_47.1 k) Y) k (XB.1, 0)) w') ∧ va_S (wd_A w sg.heap.size) sg.heap H locs ∧ lv_has ls 7 [(0, .ref m), (1, .int (nI tN)), (2, .int (nI uN)), (3, .int form), (5, .int (nI k))]) (fun (k : Nat) => Y_47.2 - k) 0 ⟨(by omega), rfl, ⟨_, hW, hR⟩, hS, (lv_sub hl [2, 3, 4, 5, 0] rfl)⟩ (fun k H locs ls hI ih_169 => ?_)
                  obtain ⟨hk, hsr, ⟨w_l169, hW, hR⟩, hS, hl⟩ := hI
                  have hbc := itB_cnt (form := form) (X := Y_47) (f := XB.1) k
                  refine lv_iload hx hb dX3_tell_169 (lv_at hl 4 rfl) ?_
                  refine lv_aload_n hx hb dX3_tell_171 rfl (lv_at hl 0 rfl) ?_
                  refine wd_get (ci := 3) (v := .int (nI Y_47.2)) (C := RX3) (T := TX3) (N := 18) hx hb hts (by decide +kernel) hown hK.1 hW hR.1 rfl 11 (by decide) (hts (.fieldLink RX3 74 "CharRowsModel" "pointMany" "I") (by decide +kernel)) (fun _ h9 => h9) rfl dX3_tell_172 ?_
                  refine lv_icmp_ge (tgt := 250) hx hb dX3_tell_175 (by decide) (fun c_175 => ?_) (fun c_175 => ?_)
                  ·
                    have c_175 : Y_47.2 ≤ k := (nI_leI (by omega) (by omega)).mp (show (nI Y_47.2 ≤ nI k) from c_175)
                    refine lv_aload_n hx hb dX3_tell_250 rfl (lv_at hl 0 rfl) ?_
                    refine lv_iload_n hx hb dX3_tell_251 rfl (lv_at hl 1 rfl) ?_
                    refine lv_iconst (v := 2) hx hb dX3_tell_252 (by decide) ?_
                    refine lv_aload_n hx hb dX3_tell_253 rfl (lv_at hl 0 rfl) ?_
                    refine wd_get (ci := 3) (v := .ref (A 9)) (C := RX3) (T := TX3) (N := 18) hx hb hts (by decide +kernel) hown hK.1 hW hR.1 rfl 17 (by decide) (hts (.fieldLink RX3 41 "CharRowsModel" "bytes" "[I") (by decide +kernel)) (fun _ h9 => h9) rfl dX3_tell_254 ?_
                    refine lv_aload_n hx hb dX3_tell_257 rfl (lv_at hl 0 rfl) ?_
                    refine wd_get (ci := 3) (v := .int (nI ((itN (fun k Y => if form = 3 then r_add 480 (Y_47.1 k) Y else r_mb 480 (Y_47.1 k) Y) k (XB.1, 0)).2))) (C := RX3) (T := TX3) (N := 18) hx hb hts (by decide +kernel) hown hK.1 hW hR.1 rfl 16 (by decide) (hts (.fieldLink RX3 125 "CharRowsModel" "bytesMany" "I") (by decide +kernel)) (fun _ h9 => h9) rfl dX3_tell_258 ?_
                    refine wd_callVi (As := [.int (nI tN), .int 2, .ref (A 9), .int (nI ((itN (fun k Y => if form = 3 then r_add 480 (Y_47.1 k) Y else r_mb 480 (Y_47.1 k) Y) k (XB.1, 0)).2))]) (rest := []) (c2 := 0) (s2 := 0) ⟨hx, hb, hml, hown, hts⟩ (k_X3_become9 l D cI cT w_l169 H.size m A fI cd pl XD Y_47 Z_47 XO (itN (fun k Y => if form = 3 then r_add 480 (Y_47.1 k) Y else r_mb 480 (Y_47.1 k) Y) k (XB.1, 0)) tx kp rs tN 2 ((itN (fun k Y => if form = 3 then r_add 480 (Y_47.1 k) Y else r_mb 480 (Y_47.1 k) Y) k (XB.1, 0)).2) hR (by omega) h10 hkp hlv hk24 hit (by omega)) (cwV 4 hts gX3_tell_X3_become rfl rfl rfl (by decide +kernel) ⟨Nat.le_of_ble_eq_true rfl, Nat.le_of_ble_eq_true rfl⟩) gK_ok hK hW (wd_recv (ci := 3) hK.1 hW rfl hR.1) hS hA rfl hl.1 rfl (Nat.le_of_ble_eq_true rfl) dX3_tell_261 ⟨Nat.le_of_ble_eq_true rfl, Nat.le_of_ble_eq_true rfl⟩ rfl rfl (fun r_261 w_261 H locs hp_261 hW hz hS => ?_)
                    obtain ⟨q_r, f_261, hit_261, hR⟩ := hp_261
                    subst r_261
                    refine wd_iret hx hb hr hlocks hW hS dX3_tell_264 ?_
                    have e9 : s_tell (cd, pl, df, tx, kp, rs) (nI tN) (nI uN) form = (nI ((itN (fun k Y => if form = 3 then r_add 480 (Y_47.1 k) Y else r_mb 480 (Y_47.1 k) Y) k (XB.1, 0)).2), 0, pl, df, (va_up tx tN (some (u_free tx kp))), kp, (va_up rs (u_free tx kp) (2, (rl ((itN (fun k Y => if form = 3 then r_add 480 (Y_47.1 k) Y else r_mb 480 (Y_47.1 k) Y) k (XB.1, 0)).1, (itN (fun k Y => if form = 3 then r_add 480 (Y_47.1 k) Y else r_mb 480 (Y_47.1 k) Y) k (XB.1, 0)).2))))) := by simp only [s_tell, if_neg (not_or.mpr ⟨c_4, (not_or.mpr ⟨c_11, c_20⟩)⟩), s_w1, s_no, s_mk, s_brk, if_neg hkd, if_neg (not_or.mpr ⟨c_57, c_62⟩), show u_find (j_bad form) (u_pl (rs r_28).1 (rs r_28).2) 0 = -1 from by rw [← hY_47, ← List.drop_zero (l := rl Y_47), ← srch_find (P := j_bad form) Y_47 Y_47.2 0 (by omega), hsr, j_srch_0 (by omega)], if_neg (not_not_intro (show (-1 : Int32) = -1 from rfl)), ne_eq, not_true_eq_false, if_false, hcl_t, hcl_u, htx_28]; have hbx : rl (itN (fun k Y => if form = 3 then r_add 480 (Y_47.1 k) Y else r_mb 480 (Y_47.1 k) Y) k (XB.1, 0)) = (u_pl (rs r_28).1 (rs r_28).2).flatMap (u_tp form) := (by rw [show k = Y_47.2 by omega, rl_tp480 (by omega), hY_47]); rw [rl_eta, hbx, show (itN (fun k Y => if form = 3 then r_add 480 (Y_47.1 k) Y else r_mb 480 (Y_47.1 k) Y) k (XB.1, 0)).2 = _ from rl_cnt hbx]; first | done | rfl
                    show _ = (s_tell (cd, pl, df, tx, kp, rs) (nI tN) (nI uN) form).1 ∧ InvR cI m (s_tell (cd, pl, df, tx, kp, rs) (nI tN) (nI uN) form).2 _
                    rw [e9]
                    exact ⟨rfl, A, f_261, XD, Y_47, Z_47, XO, (itN (fun k Y => if form = 3 then r_add 480 (Y_47.1 k) Y else r_mb 480 (Y_47.1 k) Y) k (XB.1, 0)), hR, hdf, hit_261⟩
                  ·
                    have c_175 : ¬ (Y_47.2 ≤ k) := fun q9 => absurd ((nI_leI (by omega) (by omega)).mpr q9) (show ¬ (nI Y_47.2 ≤ nI k) from c_175)
                    refine lv_aload_n hx hb dX3_tell_178 rfl (lv_at hl 0 rfl) ?_
                    refine wd_get (ci := 3) (v := .ref (A 6)) (C := RX3) (T := TX3) (N := 18) hx hb hts (by decide +kernel) hown hK.1 hW hR.1 rfl 10 (by decide) (hts (.fieldLink RX3 32 "CharRowsModel" "points" "[I") (by decide +kernel)) (fun _ h9 => h9) rfl dX3_tell_179 ?_
                    refine lv_iload hx hb dX3_tell_182 (lv_at hl 4 rfl) ?_
                    refine wd_iald hx hb hK.1 hW 0 hR.2.2.2.2.2.2.2.1 rfl (vp_in_nI (by omega) (by omega)) dX3_tell_184 ?_
                    refine wd_topE (y := Y_47.1 k) (by rw [nI_clamp (by omega)]) ?_
                    refine lv_istore (lv' := [(6, .int (Y_47.1 k)), (0, .ref m), (1, .int (nI tN)), (2, .int (nI uN)), (3, .int form), (5, .int (nI k))]) hx hb dX3_tell_185 hl (by decide) rfl (fun ls hl => ?_)
                    refine lv_iload_n hx hb dX3_tell_187 rfl (lv_at hl 4 rfl) ?_
                    refine lv_if_ne (tgt := 210) hx hb dX3_tell_188 (by decide) (fun c_188 => ?_) (fun c_188 => ?_)
                    ·
                      refine lv_iload hx hb dX3_tell_210 (lv_at hl 0 rfl) ?_
                      refine lv_sipush (v := 255) hx hb dX3_tell_212 (by decide) ?_
                      refine lv_icmp_le (tgt := 225) hx hb dX3_tell_215 (by decide) (fun c_215 => ?_) (fun c_215 => ?_)
                      ·
                        simp only [i_le, Decidable.not_not] at c_215
                        refine lv_iload_n hx hb dX3_tell_225 rfl (lv_at hl 4 rfl) ?_
                        refine lv_if_ne (tgt := 238) hx hb dX3_tell_226 (by decide) (fun c_226 => ?_) (fun c_226 => ?_)
                        ·
                          refine lv_aload_n hx hb dX3_tell_238 rfl (lv_at hl 1 rfl) ?_
                          refine lv_iload hx hb dX3_tell_239 (lv_at hl 0 rfl) ?_
                          refine wd_callVv (As := [.int (Y_47.1 k)]) (rest := []) (c2 := 0) (s2 := 0) ⟨hx, hb, hml, hown, hts⟩ (k_X3_addByte l D cI cT w_l169 H.size m A (fun t => oI (tx t)) (kI kp) (fun r => (rs r).1) (fun r => nI (rs r).2.length) fI kp.length cd pl XD Y_47 Z_47 XO (itN (fun k Y => if form = 3 then r_add 480 (Y_47.1 k) Y else r_mb 480 (Y_47.1 k) Y) k (XB.1, 0)) (Y_47.1 k) hR (by omega)) (cwV 1 hts gX3_tell_X3_addByte rfl rfl rfl (by decide +kernel) ⟨Nat.le_of_ble_eq_true rfl, Nat.le_of_ble_eq_true rfl⟩) gK_ok hK hW (wd_recv (ci := 3) hK.1 hW rfl hR.1) hS hA rfl hl.1 rfl (Nat.le_of_ble_eq_true rfl) dX3_tell_241 ⟨Nat.le_of_ble_eq_true rfl, Nat.le_of_ble_eq_true rfl⟩ rfl rfl (fun w_241 H locs hp_241 hW hz hS => ?_)
                          have hR := hp_241
                          have hcb_241 := r_add_cnt (n := 480) (x := Y_47.1 k) (X := (itN (fun k Y => if form = 3 then r_add 480 (Y_47.1 k) Y else r_mb 480 (Y_47.1 k) Y) k (XB.1, 0))) (by omega)
                          refine lv_iinc (v := nI (k + 1)) (lv' := [(5, .int (nI (k + 1))), (6, .int (Y_47.1 k)), (0, .ref m), (1, .int (nI tN)), (2, .int (nI uN)), (3, .int form)]) hx hb dX3_tell_244 hl (k := 5) rfl (nI_add k 1) (by decide) rfl (fun ls hl => ?_)
                          refine lv_goto (tgt := 169) hx hb dX3_tell_247 (by decide) ?_
                          exact ih_169 (k + 1) H locs ls ⟨(by omega), (hsr.trans ((j_srch_miss (P := fun k => j_bad form (Y_47.1 k)) (by show ¬ j_bad form (Y_47.1 k); rw [j_bad, if_pos (form03 c_20 c_57 c_62 c_188)]; exact c_215) (by omega)).trans (by rw [show Y_47.2 - k - 1 = Y_47.2 - (k + 1) by omega]))), ⟨_, hW, (by rw [show itN (fun k Y => if form = 3 then r_add 480 (Y_47.1 k) Y else r_mb 480 (Y_47.1 k) Y) (k + 1) (XB.1, 0) = _ from by (show (if form = 3 then _ else _) = _; rw [if_pos (form03 c_20 c_57 c_62 c_188)])]; exact hR)⟩, hS, (lv_sub hl [2, 3, 4, 5, 0] rfl)⟩ (by omega)
                        ·
                          exact absurd c_226 c_188
                      ·
                        simp only [i_le, Decidable.not_not] at c_215
                        refine lv_aload_n hx hb dX3_tell_218 rfl (lv_at hl 1 rfl) ?_
                        refine lv_iload hx hb dX3_tell_219 (lv_at hl 5 rfl) ?_
                        refine wd_callVi (As := [.int (nI k)]) (rest := []) (c2 := 0) (s2 := 0) ⟨hx, hb, hml, hown, hts⟩ (k_X3_breaks l D cI cT w_l169 H.size m A (fun t => oI (tx t)) (kI kp) (fun r => (rs r).1) (fun r => nI (rs r).2.length) fI kp.length cd pl XD Y_47 Z_47 XO (itN (fun k Y => if form = 3 then r_add 480 (Y_47.1 k) Y else r_mb 480 (Y_47.1 k) Y) k (XB.1, 0)) (nI k) hR) (cwV 1 hts gX3_tell_X3_breaks rfl rfl rfl (by decide +kernel) ⟨Nat.le_of_ble_eq_true rfl, Nat.le_of_ble_eq_true rfl⟩) gK_ok hK hW (wd_recv (ci := 3) hK.1 hW rfl hR.1) hS hA rfl hl.1 rfl (Nat.le_of_ble_eq_true rfl) dX3_tell_221 ⟨Nat.le_of_ble_eq_true rfl, Nat.le_of_ble_eq_true rfl⟩ rfl rfl (fun r_221 w_221 H locs hp_221 hW hz hS => ?_)
                        obtain ⟨q_r, hR⟩ := hp_221
                        subst r_221
                        refine wd_iret hx hb hr hlocks hW hS dX3_tell_224 ?_
                        have e9 : s_tell (cd, pl, df, tx, kp, rs) (nI tN) (nI uN) form = (0, 5, nI k, df, tx, kp, rs) := by simp only [s_tell, if_neg (not_or.mpr ⟨c_4, (not_or.mpr ⟨c_11, c_20⟩)⟩), s_w1, s_no, s_mk, s_brk, if_neg hkd, if_neg (not_or.mpr ⟨c_57, c_62⟩), show u_find (j_bad form) (u_pl (rs r_28).1 (rs r_28).2) 0 = nI k from by rw [← hY_47, ← List.drop_zero (l := rl Y_47), ← srch_find (P := j_bad form) Y_47 Y_47.2 0 (by omega), hsr, j_srch_hit (P := fun k => j_bad form (Y_47.1 k)) (by show j_bad form (Y_47.1 k); rw [j_bad, if_pos (form03 c_20 c_57 c_62 c_188)]; exact c_215) (by omega)], if_pos (nI_ne_m1 (k := k) (by omega)), hcl_t, hcl_u, htx_28]
                        show _ = (s_tell (cd, pl, df, tx, kp, rs) (nI tN) (nI uN) form).1 ∧ InvR cI m (s_tell (cd, pl, df, tx, kp, rs) (nI tN) (nI uN) form).2 _
                        rw [e9]
                        exact ⟨rfl, A, fI, XD, Y_47, Z_47, XO, (itN (fun k Y => if form = 3 then r_add 480 (Y_47.1 k) Y else r_mb 480 (Y_47.1 k) Y) k (XB.1, 0)), hR, hdf, hit⟩
                    ·
                      refine lv_iload hx hb dX3_tell_191 (lv_at hl 0 rfl) ?_
                      refine wd_callSi (As := [.int (Y_47.1 k)]) (rest := []) (c2 := 0) (s2 := 0) ⟨hx, hb, hml, hown, hts⟩ (k_X3_isHigh l D cI cT w_l169 H.size (Y_47.1 k) ) (va_cwS 1 hts gX3_tell_X3_isHigh rfl rfl rfl (by decide +kernel) ⟨Nat.le_of_ble_eq_true rfl, Nat.le_of_ble_eq_true rfl⟩) gK_ok hK hW hS hA rfl hl.1 rfl (Nat.le_of_ble_eq_true rfl) dX3_tell_193 ⟨Nat.le_of_ble_eq_true rfl, Nat.le_of_ble_eq_true rfl⟩ rfl rfl (fun r_193 w_193 H locs hp_193 hW hz hS => ?_)
                      obtain ⟨q_r, q_w⟩ := hp_193
                      subst r_193
                      subst w_193
                      refine lv_if_ne (tgt := 218) hx hb dX3_tell_196 (by decide) (fun c_196 => ?_) (fun c_196 => ?_)
                      ·
                        have c_196 := j_bn c_196
                        refine lv_aload_n hx hb dX3_tell_218 rfl (lv_at hl 1 rfl) ?_
                        refine lv_iload hx hb dX3_tell_219 (lv_at hl 5 rfl) ?_
                        refine wd_callVi (As := [.int (nI k)]) (rest := []) (c2 := 0) (s2 := 0) ⟨hx, hb, hml, hown, hts⟩ (k_X3_breaks l D cI cT w_l169 H.size m A (fun t => oI (tx t)) (kI kp) (fun r => (rs r).1) (fun r => nI (rs r).2.length) fI kp.length cd pl XD Y_47 Z_47 XO (itN (fun k Y => if form = 3 then r_add 480 (Y_47.1 k) Y else r_mb 480 (Y_47.1 k) Y) k (XB.1, 0)) (nI k) hR) (cwV 1 hts gX3_tell_X3_breaks rfl rfl rfl (by decide +kernel) ⟨Nat.le_of_ble_eq_true rfl, Nat.le_of_ble_eq_true rfl⟩) gK_ok hK hW (wd_recv (ci := 3) hK.1 hW rfl hR.1) hS hA rfl hl.1 rfl (Nat.le_of_ble_eq_true rfl) dX3_tell_221 ⟨Nat.le_of_ble_eq_true rfl, Nat.le_of_ble_eq_true rfl⟩ rfl rfl (fun r_221 w_221 H locs hp_221 hW hz hS => ?_)
                        obtain ⟨q_r, hR⟩ := hp_221
                        subst r_221
                        refine wd_iret hx hb hr hlocks hW hS dX3_tell_224 ?_
                        have e9 : s_tell (cd, pl, df, tx, kp, rs) (nI tN) (nI uN) form = (0, 5, nI k, df, tx, kp, rs) := by simp only [s_tell, if_neg (not_or.mpr ⟨c_4, (not_or.mpr ⟨c_11, c_20⟩)⟩), s_w1, s_no, s_mk, s_brk, if_neg hkd, if_neg (not_or.mpr ⟨c_57, c_62⟩), show u_find (j_bad form) (u_pl (rs r_28).1 (rs r_28).2) 0 = nI k from by rw [← hY_47, ← List.drop_zero (l := rl Y_47), ← srch_find (P := j_bad form) Y_47 Y_47.2 0 (by omega), hsr, j_srch_hit (P := fun k => j_bad form (Y_47.1 k)) (by show j_bad form (Y_47.1 k); rw [j_bad, if_neg (by rw [c_188]; decide)]; exact Or.inl c_196) (by omega)], if_pos (nI_ne_m1 (k := k) (by omega)), hcl_t, hcl_u, htx_28]
                        show _ = (s_tell (cd, pl, df, tx, kp, rs) (nI tN) (nI uN) form).1 ∧ InvR cI m (s_tell (cd, pl, df, tx, kp, rs) (nI tN) (nI uN) form).2 _
                        rw [e9]
                        exact ⟨rfl, A, fI, XD, Y_47, Z_47, XO, (itN (fun k Y => if form = 3 then r_add 480 (Y_47.1 k) Y else r_mb 480 (Y_47.1 k) Y) k (XB.1, 0)), hR, hdf, hit⟩
                      ·
                        have c_196 := j_b0 c_196
                        refine lv_iload hx hb dX3_tell_199 (lv_at hl 0 rfl) ?_
                        refine wd_callSi (As := [.int (Y_47.1 k)]) (rest := []) (c2 := 0) (s2 := 0) ⟨hx, hb, hml, hown, hts⟩ (k_X3_isLow l D cI cT w_l169 H.size (Y_47.1 k) ) (va_cwS 1 hts gX3_tell_X3_isLow rfl rfl rfl (by decide +kernel) ⟨Nat.le_of_ble_eq_true rfl, Nat.le_of_ble_eq_true rfl⟩) gK_ok hK hW hS hA rfl hl.1 rfl (Nat.le_of_ble_eq_true rfl) dX3_tell_201 ⟨Nat.le_of_ble_eq_true rfl, Nat.le_of_ble_eq_true rfl⟩ rfl rfl (fun r_201 w_201 H locs hp_201 hW hz hS => ?_)
                        obtain ⟨q_r, q_w⟩ := hp_201
                        subst r_201
                        subst w_201
                        refine lv_if_eq (tgt := 225) hx hb dX3_tell_204 (by decide) (fun c_204 => ?_) (fun c_204 => ?_)
                        ·
                          have c_204 := j_b0 c_204
                          refine lv_iload_n hx hb dX3_tell_225 rfl (lv_at hl 4 rfl) ?_
                          refine lv_if_ne (tgt := 238) hx hb dX3_tell_226 (by decide) (fun c_226 => ?_) (fun c_226 => ?_)
                          ·
                            exact absurd c_188 c_226
                          ·
                            refine lv_aload_n hx hb dX3_tell_229 rfl (lv_at hl 1 rfl) ?_
                            refine lv_iload hx hb dX3_tell_230 (lv_at hl 0 rfl) ?_
                            refine wd_callVv (As := [.int (Y_47.1 k)]) (rest := []) (c2 := 0) (s2 := 0) ⟨hx, hb, hml, hown, hts⟩ (k_X3_addPoint l D cI cT w_l169 H.size m A (fun t => oI (tx t)) (kI kp) (fun r => (rs r).1) (fun r => nI (rs r).2.length) fI kp.length cd pl XD Y_47 Z_47 XO (itN (fun k Y => if form = 3 then r_add 480 (Y_47.1 k) Y else r_mb 480 (Y_47.1 k) Y) k (XB.1, 0)) (Y_47.1 k) hR (by omega)) (cwV 1 hts gX3_tell_X3_addPoint rfl rfl rfl (by decide +kernel) ⟨Nat.le_of_ble_eq_true rfl, Nat.le_of_ble_eq_true rfl⟩) gK_ok hK hW (wd_recv (ci := 3) hK.1 hW rfl hR.1) hS hA rfl hl.1 rfl (Nat.le_of_ble_eq_true rfl) dX3_tell_232 ⟨Nat.le_of_ble_eq_true rfl, Nat.le_of_ble_eq_true rfl⟩ rfl rfl (fun w_232 H locs hp_232 hW hz hS => ?_)
                            have hR := hp_232
                            refine lv_goto (tgt := 244) hx hb dX3_tell_235 (by decide) ?_
                            refine lv_iinc (v := nI (k + 1)) (lv' := [(5, .int (nI (k + 1))), (6, .int (Y_47.1 k)), (0, .ref m), (1, .int (nI tN)), (2, .int (nI uN)), (3, .int form)]) hx hb dX3_tell_244 hl (k := 5) rfl (nI_add k 1) (by decide) rfl (fun ls hl => ?_)
                            refine lv_goto (tgt := 169) hx hb dX3_tell_247 (by decide) ?_
                            exact ih_169 (k + 1) H locs ls ⟨(by omega), (hsr.trans ((j_srch_miss (P := fun k => j_bad form (Y_47.1 k)) (by show ¬ j_bad form (Y_47.1 k); rw [j_bad, if_neg (by rw [c_188]; decide)]; exact fun q => q.elim c_196 c_204) (by omega)).trans (by rw [show Y_47.2 - k - 1 = Y_47.2 - (k + 1) by omega]))), ⟨_, hW, (by rw [show itN (fun k Y => if form = 3 then r_add 480 (Y_47.1 k) Y else r_mb 480 (Y_47.1 k) Y) (k + 1) (XB.1, 0) = _ from by (show (if form = 3 then _ else _) = _; rw [if_neg (by rw [c_188]; decide)])]; exact hR)⟩, hS, (lv_sub hl [2, 3, 4, 5, 0] rfl)⟩ (by omega)
                        ·
                          have c_204 := j_bn c_204
                          refine lv_goto (tgt := 218) hx hb dX3_tell_207 (by decide) ?_
                          refine lv_aload_n hx hb dX3_tell_218 rfl (lv_at hl 1 rfl) ?_
                          refine lv_iload hx hb dX3_tell_219 (lv_at hl 5 rfl) ?_
                          refine wd_callVi (As := [.int (nI k)]) (rest := []) (c2 := 0) (s2 := 0) ⟨hx, hb, hml, hown, hts⟩ (k_X3_breaks l D cI cT w_l169 H.size m A (fun t => oI (tx t)) (kI kp) (fun r => (rs r).1) (fun r => nI (rs r).2.length) fI kp.length cd pl XD Y_47 Z_47 XO (itN (fun k Y => if form = 3 then r_add 480 (Y_47.1 k) Y else r_mb 480 (Y_47.1 k) Y) k (XB.1, 0)) (nI k) hR) (cwV 1 hts gX3_tell_X3_breaks rfl rfl rfl (by decide +kernel) ⟨Nat.le_of_ble_eq_true rfl, Nat.le_of_ble_eq_true rfl⟩) gK_ok hK hW (wd_recv (ci := 3) hK.1 hW rfl hR.1) hS hA rfl hl.1 rfl (Nat.le_of_ble_eq_true rfl) dX3_tell_221 ⟨Nat.le_of_ble_eq_true rfl, Nat.le_of_ble_eq_true rfl⟩ rfl rfl (fun r_221 w_221 H locs hp_221 hW hz hS => ?_)
                          obtain ⟨q_r, hR⟩ := hp_221
                          subst r_221
                          refine wd_iret hx hb hr hlocks hW hS dX3_tell_224 ?_
                          have e9 : s_tell (cd, pl, df, tx, kp, rs) (nI tN) (nI uN) form = (0, 5, nI k, df, tx, kp, rs) := by simp only [s_tell, if_neg (not_or.mpr ⟨c_4, (not_or.mpr ⟨c_11, c_20⟩)⟩), s_w1, s_no, s_mk, s_brk, if_neg hkd, if_neg (not_or.mpr ⟨c_57, c_62⟩), show u_find (j_bad form) (u_pl (rs r_28).1 (rs r_28).2) 0 = nI k from by rw [← hY_47, ← List.drop_zero (l := rl Y_47), ← srch_find (P := j_bad form) Y_47 Y_47.2 0 (by omega), hsr, j_srch_hit (P := fun k => j_bad form (Y_47.1 k)) (by show j_bad form (Y_47.1 k); rw [j_bad, if_neg (by rw [c_188]; decide)]; exact Or.inr c_204) (by omega)], if_pos (nI_ne_m1 (k := k) (by omega)), hcl_t, hcl_u, htx_28]
                          show _ = (s_tell (cd, pl, df, tx, kp, rs) (nI tN) (nI uN) form).1 ∧ InvR cI m (s_tell (cd, pl, df, tx, kp, rs) (nI tN) (nI uN) form).2 _
                          rw [e9]
                          exact ⟨rfl, A, fI, XD, Y_47, Z_47, XO, (itN (fun k Y => if form = 3 then r_add 480 (Y_47.1 k) Y else r_mb 480 (Y_47.1 k) Y) k (XB.1, 0)), hR, hdf, hit⟩
                ·
                  refine lv_iconst (v := 0) hx hb dX3_tell_65 (by decide) ?_
                  refine lv_istore (lv' := [(5, .int 0), (4, .int 0), (0, .ref m), (1, .int (nI tN)), (2, .int (nI uN)), (3, .int form)]) hx hb dX3_tell_66 hl (by decide) rfl (fun ls hl => ?_)
                  refine wd_loop1 (fun (k : Nat) (H : Heap) (locs : List Loc) (ls : Array Slot) => (k ≤ Z_47.2) ∧ (∃ w', wd_P D vwCl (wd_A w sg.heap.size) w' H ∧ rW cI m A (fun t => oI (tx t)) (kI kp) (fun r => (rs r).1) (fun r => nI (rs r).2.length) fI kp.length cd pl XD Y_47 Z_47 XO (itN (fun k Y => r_tu1 480 form (Z_47.1 k) Y) k (XB.1, 0)) w') ∧ va_S (wd_A w sg.heap.size) sg.heap H locs ∧ lv_has ls 7 [(0, .ref m), (1, .int (nI tN)), (2, .int (nI uN)), (3, .int form), (5, .int (nI k))]) (fun (k : Nat) => Z_47.2 - k) 0 ⟨(by omega), ⟨_, hW, hR⟩, hS, (lv_sub hl [2, 3, 4, 5, 0] rfl)⟩ (fun k H locs ls hI ih_68 => ?_)
                  obtain ⟨hk, ⟨w_l68, hW, hR⟩, hS, hl⟩ := hI
                  have hbc := itT_cnt (form := form) (X := Z_47) (f := XB.1) k
                  refine lv_iload hx hb dX3_tell_68 (lv_at hl 4 rfl) ?_
                  refine lv_aload_n hx hb dX3_tell_70 rfl (lv_at hl 0 rfl) ?_
                  refine wd_get (ci := 3) (v := .int (nI Z_47.2)) (C := RX3) (T := TX3) (N := 18) hx hb hts (by decide +kernel) hown hK.1 hW hR.1 rfl 13 (by decide) (hts (.fieldLink RX3 71 "CharRowsModel" "unitMany" "I") (by decide +kernel)) (fun _ h9 => h9) rfl dX3_tell_71 ?_
                  refine lv_icmp_ge (tgt := 151) hx hb dX3_tell_74 (by decide) (fun c_74 => ?_) (fun c_74 => ?_)
                  ·
                    have c_74 : Z_47.2 ≤ k := (nI_leI (by omega) (by omega)).mp (show (nI Z_47.2 ≤ nI k) from c_74)
                    refine lv_aload_n hx hb dX3_tell_151 rfl (lv_at hl 0 rfl) ?_
                    refine lv_iload_n hx hb dX3_tell_152 rfl (lv_at hl 1 rfl) ?_
                    refine lv_iconst (v := 2) hx hb dX3_tell_153 (by decide) ?_
                    refine lv_aload_n hx hb dX3_tell_154 rfl (lv_at hl 0 rfl) ?_
                    refine wd_get (ci := 3) (v := .ref (A 9)) (C := RX3) (T := TX3) (N := 18) hx hb hts (by decide +kernel) hown hK.1 hW hR.1 rfl 17 (by decide) (hts (.fieldLink RX3 41 "CharRowsModel" "bytes" "[I") (by decide +kernel)) (fun _ h9 => h9) rfl dX3_tell_155 ?_
                    refine lv_aload_n hx hb dX3_tell_158 rfl (lv_at hl 0 rfl) ?_
                    refine wd_get (ci := 3) (v := .int (nI ((itN (fun k Y => r_tu1 480 form (Z_47.1 k) Y) k (XB.1, 0)).2))) (C := RX3) (T := TX3) (N := 18) hx hb hts (by decide +kernel) hown hK.1 hW hR.1 rfl 16 (by decide) (hts (.fieldLink RX3 125 "CharRowsModel" "bytesMany" "I") (by decide +kernel)) (fun _ h9 => h9) rfl dX3_tell_159 ?_
                    refine wd_callVi (As := [.int (nI tN), .int 2, .ref (A 9), .int (nI ((itN (fun k Y => r_tu1 480 form (Z_47.1 k) Y) k (XB.1, 0)).2))]) (rest := []) (c2 := 0) (s2 := 0) ⟨hx, hb, hml, hown, hts⟩ (k_X3_become9 l D cI cT w_l68 H.size m A fI cd pl XD Y_47 Z_47 XO (itN (fun k Y => r_tu1 480 form (Z_47.1 k) Y) k (XB.1, 0)) tx kp rs tN 2 ((itN (fun k Y => r_tu1 480 form (Z_47.1 k) Y) k (XB.1, 0)).2) hR (by omega) h10 hkp hlv hk24 hit (by omega)) (cwV 4 hts gX3_tell_X3_become rfl rfl rfl (by decide +kernel) ⟨Nat.le_of_ble_eq_true rfl, Nat.le_of_ble_eq_true rfl⟩) gK_ok hK hW (wd_recv (ci := 3) hK.1 hW rfl hR.1) hS hA rfl hl.1 rfl (Nat.le_of_ble_eq_true rfl) dX3_tell_162 ⟨Nat.le_of_ble_eq_true rfl, Nat.le_of_ble_eq_true rfl⟩ rfl rfl (fun r_162 w_162 H locs hp_162 hW hz hS => ?_)
                    obtain ⟨q_r, f_162, hit_162, hR⟩ := hp_162
                    subst r_162
                    refine wd_iret hx hb hr hlocks hW hS dX3_tell_165 ?_
                    have e9 : s_tell (cd, pl, df, tx, kp, rs) (nI tN) (nI uN) form = (nI ((itN (fun k Y => r_tu1 480 form (Z_47.1 k) Y) k (XB.1, 0)).2), 0, pl, df, (va_up tx tN (some (u_free tx kp))), kp, (va_up rs (u_free tx kp) (2, (rl ((itN (fun k Y => r_tu1 480 form (Z_47.1 k) Y) k (XB.1, 0)).1, (itN (fun k Y => r_tu1 480 form (Z_47.1 k) Y) k (XB.1, 0)).2))))) := by simp only [s_tell, if_neg (not_or.mpr ⟨c_4, (not_or.mpr ⟨c_11, c_20⟩)⟩), s_w1, s_no, s_mk, s_brk, if_neg hkd, if_pos (Or.inr c_62), hcl_t, hcl_u, htx_28]; rw [show (rl ((itN (fun k Y => r_tu1 480 form (Z_47.1 k) Y) k (XB.1, 0)).1, (itN (fun k Y => r_tu1 480 form (Z_47.1 k) Y) k (XB.1, 0)).2)) = (u_ul (rs r_28).1 (rs r_28).2).flatMap (u_tu form) from by rw [rl_eta, show k = Z_47.2 by omega, rl_itX (n := 480) (b := 2) (φ := u_tu form) (fun x => Nat.le_refl 2) (fun k _ Y hY => rl_tu1 hY) (by show 0 + _ ≤ 480; omega), hZ_47]; rfl]; rw [show (itN (fun k Y => r_tu1 480 form (Z_47.1 k) Y) k (XB.1, 0)).2 = ((u_ul (rs r_28).1 (rs r_28).2).flatMap (u_tu form)).length from rl_cnt (by rw [show k = Z_47.2 by omega, rl_itX (n := 480) (b := 2) (φ := u_tu form) (fun x => Nat.le_refl 2) (fun k _ Y hY => rl_tu1 hY) (by show 0 + _ ≤ 480; omega), hZ_47]; rfl)]; first | done | rfl
                    show _ = (s_tell (cd, pl, df, tx, kp, rs) (nI tN) (nI uN) form).1 ∧ InvR cI m (s_tell (cd, pl, df, tx, kp, rs) (nI tN) (nI uN) form).2 _
                    rw [e9]
                    exact ⟨rfl, A, f_162, XD, Y_47, Z_47, XO, (itN (fun k Y => r_tu1 480 form (Z_47.1 k) Y) k (XB.1, 0)), hR, hdf, hit_162⟩
                  ·
                    have c_74 : ¬ (Z_47.2 ≤ k) := fun q9 => absurd ((nI_leI (by omega) (by omega)).mpr q9) (show ¬ (nI Z_47.2 ≤ nI k) from c_74)
                    refine lv_aload_n hx hb dX3_tell_77 rfl (lv_at hl 0 rfl) ?_
                    refine lv_iload_n hx hb dX3_tell_78 rfl (lv_at hl 3 rfl) ?_
                    refine lv_iconst (v := 1) hx hb dX3_tell_79 (by decide) ?_
                    refine lv_icmp_ne (tgt := 97) hx hb dX3_tell_80 (by decide) (fun c_80 => ?_) (fun c_80 => ?_)
                    ·
                      refine lv_aload_n hx hb dX3_tell_97 rfl (lv_at hl 0 rfl) ?_
                      refine wd_get (ci := 3) (v := .ref (A 7)) (C := RX3) (T := TX3) (N := 18) hx hb hts (by decide +kernel) hown hK.1 hW hR.1 rfl 12 (by decide) (hts (.fieldLink RX3 35 "CharRowsModel" "units" "[I") (by decide +kernel)) (fun _ h9 => h9) rfl dX3_tell_98 ?_
                      refine lv_iload hx hb dX3_tell_101 (lv_at hl 4 rfl) ?_
                      refine wd_iald hx hb hK.1 hW 0 hR.2.2.2.2.2.2.2.2.1 rfl (vp_in_nI (by omega) (by omega)) dX3_tell_103 ?_
                      refine wd_topE (y := Z_47.1 k) (by rw [nI_clamp (by omega)]) ?_
                      refine lv_sipush (v := 256) hx hb dX3_tell_104 (by decide) ?_
                      refine lv_irem hx hb dX3_tell_107 (by decide) ?_
                      refine wd_callVv (As := [.int ((Z_47.1 k) - (Z_47.1 k) / 256 * 256)]) (rest := []) (c2 := 0) (s2 := 0) ⟨hx, hb, hml, hown, hts⟩ (k_X3_addByte l D cI cT w_l68 H.size m A (fun t => oI (tx t)) (kI kp) (fun r => (rs r).1) (fun r => nI (rs r).2.length) fI kp.length cd pl XD Y_47 Z_47 XO (itN (fun k Y => r_tu1 480 form (Z_47.1 k) Y) k (XB.1, 0)) ((Z_47.1 k) - (Z_47.1 k) / 256 * 256) hR (by omega)) (cwV 1 hts gX3_tell_X3_addByte rfl rfl rfl (by decide +kernel) ⟨Nat.le_of_ble_eq_true rfl, Nat.le_of_ble_eq_true rfl⟩) gK_ok hK hW (wd_recv (ci := 3) hK.1 hW rfl hR.1) hS hA rfl hl.1 rfl (Nat.le_of_ble_eq_true rfl) dX3_tell_108 ⟨Nat.le_of_ble_eq_true rfl, Nat.le_of_ble_eq_true rfl⟩ rfl rfl (fun w_108 H locs hp_108 hW hz hS => ?_)
                      have hR := hp_108
                      have hcb_108 := r_add_cnt (n := 480) (x := (Z_47.1 k) - (Z_47.1 k) / 256 * 256) (X := (itN (fun k Y => r_tu1 480 form (Z_47.1 k) Y) k (XB.1, 0))) (by omega)
                      refine lv_aload_n hx hb dX3_tell_111 rfl (lv_at hl 0 rfl) ?_
                      refine lv_iload_n hx hb dX3_tell_112 rfl (lv_at hl 3 rfl) ?_
                      refine lv_iconst (v := 1) hx hb dX3_tell_113 (by decide) ?_
                      refine lv_icmp_ne (tgt := 131) hx hb dX3_tell_114 (by decide) (fun c_114 => ?_) (fun c_114 => ?_)
                      ·
                        refine lv_aload_n hx hb dX3_tell_131 rfl (lv_at hl 0 rfl) ?_
                        refine wd_get (ci := 3) (v := .ref (A 7)) (C := RX3) (T := TX3) (N := 18) hx hb hts (by decide +kernel) hown hK.1 hW hR.1 rfl 12 (by decide) (hts (.fieldLink RX3 35 "CharRowsModel" "units" "[I") (by decide +kernel)) (fun _ h9 => h9) rfl dX3_tell_132 ?_
                        refine lv_iload hx hb dX3_tell_135 (lv_at hl 4 rfl) ?_
                        refine wd_iald hx hb hK.1 hW 0 hR.2.2.2.2.2.2.2.2.1 rfl (vp_in_nI (by omega) (by omega)) dX3_tell_137 ?_
                        refine wd_topE (y := Z_47.1 k) (by rw [nI_clamp (by omega)]) ?_
                        refine lv_sipush (v := 256) hx hb dX3_tell_138 (by decide) ?_
                        refine lv_idiv hx hb dX3_tell_141 (by decide) ?_
                        refine wd_callVv (As := [.int ((Z_47.1 k) / 256)]) (rest := []) (c2 := 0) (s2 := 0) ⟨hx, hb, hml, hown, hts⟩ (k_X3_addByte l D cI cT w_108 H.size m A (fun t => oI (tx t)) (kI kp) (fun r => (rs r).1) (fun r => nI (rs r).2.length) fI kp.length cd pl XD Y_47 Z_47 XO (r_add 480 ((Z_47.1 k) - (Z_47.1 k) / 256 * 256) (itN (fun k Y => r_tu1 480 form (Z_47.1 k) Y) k (XB.1, 0))) ((Z_47.1 k) / 256) hR (by omega)) (cwV 1 hts gX3_tell_X3_addByte rfl rfl rfl (by decide +kernel) ⟨Nat.le_of_ble_eq_true rfl, Nat.le_of_ble_eq_true rfl⟩) gK_ok hK hW (wd_recv (ci := 3) hK.1 hW rfl hR.1) hS hA rfl hl.1 rfl (Nat.le_of_ble_eq_true rfl) dX3_tell_142 ⟨Nat.le_of_ble_eq_true rfl, Nat.le_of_ble_eq_true rfl⟩ rfl rfl (fun w_142 H locs hp_142 hW hz hS => ?_)
                        have hR := hp_142
                        have hcb_142 := r_add_cnt (n := 480) (x := (Z_47.1 k) / 256) (X := (r_add 480 ((Z_47.1 k) - (Z_47.1 k) / 256 * 256) (itN (fun k Y => r_tu1 480 form (Z_47.1 k) Y) k (XB.1, 0)))) (by omega)
                        refine lv_iinc (v := nI (k + 1)) (lv' := [(5, .int (nI (k + 1))), (0, .ref m), (1, .int (nI tN)), (2, .int (nI uN)), (3, .int form)]) hx hb dX3_tell_145 hl (k := 4) rfl (nI_add k 1) (by decide) rfl (fun ls hl => ?_)
                        refine lv_goto (tgt := 68) hx hb dX3_tell_148 (by decide) ?_
                        exact ih_68 (k + 1) H locs ls ⟨(by omega), ⟨_, hW, (by rw [show itN (fun k Y => r_tu1 480 form (Z_47.1 k) Y) (k + 1) (XB.1, 0) = _ from by (show r_tu1 480 form (Z_47.1 k) _ = _; rw [r_tu1, if_neg c_80, if_neg c_80])]; exact hR)⟩, hS, (lv_sub hl [1, 2, 3, 4, 0] rfl)⟩ (by omega)
                      ·
                        exact absurd c_114 c_80
                    ·
                      refine lv_aload_n hx hb dX3_tell_83 rfl (lv_at hl 0 rfl) ?_
                      refine wd_get (ci := 3) (v := .ref (A 7)) (C := RX3) (T := TX3) (N := 18) hx hb hts (by decide +kernel) hown hK.1 hW hR.1 rfl 12 (by decide) (hts (.fieldLink RX3 35 "CharRowsModel" "units" "[I") (by decide +kernel)) (fun _ h9 => h9) rfl dX3_tell_84 ?_
                      refine lv_iload hx hb dX3_tell_87 (lv_at hl 4 rfl) ?_
                      refine wd_iald hx hb hK.1 hW 0 hR.2.2.2.2.2.2.2.2.1 rfl (vp_in_nI (by omega) (by omega)) dX3_tell_89 ?_
                      refine wd_topE (y := Z_47.1 k) (by rw [nI_clamp (by omega)]) ?_
                      refine lv_sipush (v := 256) hx hb dX3_tell_90 (by decide) ?_
                      refine lv_idiv hx hb dX3_tell_93 (by decide) ?_
                      refine lv_goto (tgt := 108) hx hb dX3_tell_94 (by decide) ?_
                      refine wd_callVv (As := [.int ((Z_47.1 k) / 256)]) (rest := []) (c2 := 0) (s2 := 0) ⟨hx, hb, hml, hown, hts⟩ (k_X3_addByte l D cI cT w_l68 H.size m A (fun t => oI (tx t)) (kI kp) (fun r => (rs r).1) (fun r => nI (rs r).2.length) fI kp.length cd pl XD Y_47 Z_47 XO (itN (fun k Y => r_tu1 480 form (Z_47.1 k) Y) k (XB.1, 0)) ((Z_47.1 k) / 256) hR (by omega)) (cwV 1 hts gX3_tell_X3_addByte rfl rfl rfl (by decide +kernel) ⟨Nat.le_of_ble_eq_true rfl, Nat.le_of_ble_eq_true rfl⟩) gK_ok hK hW (wd_recv (ci := 3) hK.1 hW rfl hR.1) hS hA rfl hl.1 rfl (Nat.le_of_ble_eq_true rfl) dX3_tell_108 ⟨Nat.le_of_ble_eq_true rfl, Nat.le_of_ble_eq_true rfl⟩ rfl rfl (fun w_108 H locs hp_108 hW hz hS => ?_)
                      have hR := hp_108
                      have hcb_108 := r_add_cnt (n := 480) (x := (Z_47.1 k) / 256) (X := (itN (fun k Y => r_tu1 480 form (Z_47.1 k) Y) k (XB.1, 0))) (by omega)
                      refine lv_aload_n hx hb dX3_tell_111 rfl (lv_at hl 0 rfl) ?_
                      refine lv_iload_n hx hb dX3_tell_112 rfl (lv_at hl 3 rfl) ?_
                      refine lv_iconst (v := 1) hx hb dX3_tell_113 (by decide) ?_
                      refine lv_icmp_ne (tgt := 131) hx hb dX3_tell_114 (by decide) (fun c_114 => ?_) (fun c_114 => ?_)
                      ·
                        exact absurd c_80 c_114
                      ·
                        refine lv_aload_n hx hb dX3_tell_117 rfl (lv_at hl 0 rfl) ?_
                        refine wd_get (ci := 3) (v := .ref (A 7)) (C := RX3) (T := TX3) (N := 18) hx hb hts (by decide +kernel) hown hK.1 hW hR.1 rfl 12 (by decide) (hts (.fieldLink RX3 35 "CharRowsModel" "units" "[I") (by decide +kernel)) (fun _ h9 => h9) rfl dX3_tell_118 ?_
                        refine lv_iload hx hb dX3_tell_121 (lv_at hl 4 rfl) ?_
                        refine wd_iald hx hb hK.1 hW 0 hR.2.2.2.2.2.2.2.2.1 rfl (vp_in_nI (by omega) (by omega)) dX3_tell_123 ?_
                        refine wd_topE (y := Z_47.1 k) (by rw [nI_clamp (by omega)]) ?_
                        refine lv_sipush (v := 256) hx hb dX3_tell_124 (by decide) ?_
                        refine lv_irem hx hb dX3_tell_127 (by decide) ?_
                        refine lv_goto (tgt := 142) hx hb dX3_tell_128 (by decide) ?_
                        refine wd_callVv (As := [.int ((Z_47.1 k) - (Z_47.1 k) / 256 * 256)]) (rest := []) (c2 := 0) (s2 := 0) ⟨hx, hb, hml, hown, hts⟩ (k_X3_addByte l D cI cT w_108 H.size m A (fun t => oI (tx t)) (kI kp) (fun r => (rs r).1) (fun r => nI (rs r).2.length) fI kp.length cd pl XD Y_47 Z_47 XO (r_add 480 ((Z_47.1 k) / 256) (itN (fun k Y => r_tu1 480 form (Z_47.1 k) Y) k (XB.1, 0))) ((Z_47.1 k) - (Z_47.1 k) / 256 * 256) hR (by omega)) (cwV 1 hts gX3_tell_X3_addByte rfl rfl rfl (by decide +kernel) ⟨Nat.le_of_ble_eq_true rfl, Nat.le_of_ble_eq_true rfl⟩) gK_ok hK hW (wd_recv (ci := 3) hK.1 hW rfl hR.1) hS hA rfl hl.1 rfl (Nat.le_of_ble_eq_true rfl) dX3_tell_142 ⟨Nat.le_of_ble_eq_true rfl, Nat.le_of_ble_eq_true rfl⟩ rfl rfl (fun w_142 H locs hp_142 hW hz hS => ?_)
                        have hR := hp_142
                        have hcb_142 := r_add_cnt (n := 480) (x := (Z_47.1 k) - (Z_47.1 k) / 256 * 256) (X := (r_add 480 ((Z_47.1 k) / 256) (itN (fun k Y => r_tu1 480 form (Z_47.1 k) Y) k (XB.1, 0)))) (by omega)
                        refine lv_iinc (v := nI (k + 1)) (lv' := [(5, .int (nI (k + 1))), (0, .ref m), (1, .int (nI tN)), (2, .int (nI uN)), (3, .int form)]) hx hb dX3_tell_145 hl (k := 4) rfl (nI_add k 1) (by decide) rfl (fun ls hl => ?_)
                        refine lv_goto (tgt := 68) hx hb dX3_tell_148 (by decide) ?_
                        exact ih_68 (k + 1) H locs ls ⟨(by omega), ⟨_, hW, (by rw [show itN (fun k Y => r_tu1 480 form (Z_47.1 k) Y) (k + 1) (XB.1, 0) = _ from by (show r_tu1 480 form (Z_47.1 k) _ = _; rw [r_tu1, if_pos c_80, if_pos c_80])]; exact hR)⟩, hS, (lv_sub hl [1, 2, 3, 4, 0] rfl)⟩ (by omega)
            ·
              exact absurd rfl c_35
      ·
        have c_20 := w_no (w_form form) (j_b0 c_20)
        refine lv_ldc (v := (-2000000001)) hx hb hown (hts (.constant RX3 107 (-2000000001)) (by decide +kernel)) dX3_tell_23 ?_
        refine wd_iret hx hb hr hlocks hW hS dX3_tell_25 ?_
        have e9 : s_tell (cd, pl, df, tx, kp, rs) (nI tN) (nI uN) form = ((-2000000001), cd, pl, df, tx, kp, rs) := by simp only [s_tell, if_pos (Or.inr (Or.inr c_20)), s_w1, s_no, s_mk, s_brk, hcl_t, hcl_u]
        show _ = (s_tell (cd, pl, df, tx, kp, rs) (nI tN) (nI uN) form).1 ∧ InvR cI m (s_tell (cd, pl, df, tx, kp, rs) (nI tN) (nI uN) form).2 _
        rw [e9]
        exact ⟨rfl, A, fI, XD, XP, XU, XO, XB, hR, hdf, hit⟩
