set_option maxHeartbeats 4000000 in
set_option maxRecDepth 100000 in
theorem k_X2_read (l : Launch) (D : va_G) (cI cT : ClassId) (w : Wd) (sz : Nat) (o : Nat) (cd : Int32) (pl : Int32) (df : List Int32) (tx : Nat → Option Nat) (kp : List Nat) (rs : Rws) (t : Int32) (u : Int32) (form : Int32) (hwf : WF (cd, pl, df, tx, kp, rs)) (hI : InvC cI cT o (cd, pl, df, tx, kp, rs) w) : wd_Mi l D vwCl (gK D cI cT) yX2_read wsX2_read (wd_rm 5 2 242) [.ref o, .int t, .int u, .int form] w sz (fun r w' => r = (s_read (cd, pl, df, tx, kp, rs) t u form).1 ∧ InvC cI cT o (s_read (cd, pl, df, tx, kp, rs) t u form).2 w') := by
  refine wd_met (cc := cX2_read) (maxL := 6) (ret := (some .int)) (by decide) rfl (Nat.le_of_ble_eq_true rfl) ?_
  intro pg ev sg mi bl mt cde ls C0 hsz hK hW hl
  obtain ⟨hx, hb, hr, hml, hown, hts, hlocks, hnm⟩ := C0
  subst hsz
  have hown : sg.vm.findClass RX2 = some mi.cls := hown
  have hS : va_S (wd_A w sg.heap.size) sg.heap sg.heap [] := va_S.rf
  have hA : ∀ q, sg.heap.size ≤ q → wd_A w sg.heap.size q := fun q h => Or.inr h
  have hl : lv_has ls 6 [(0, .ref o), (1, .int t), (2, .int u), (3, .int form)] := hl
  obtain ⟨tA, kA, dr, drI, wk, wkI, sw, swI, aT, aI, Xd, hC⟩ := hI
  dsimp only at hC
  obtain ⟨Xw, hXw⟩ := hC.2.2.2.2.1
  obtain ⟨Xs, hXs⟩ := hC.2.2.2.2.2.1
  have hXd1 := hC.2.2.2.1.1.2.2.1
  have hdf := hC.2.2.2.1.2
  have hkp : kp.length ≤ 12 := hwf.2.2.1
  have hdl : df.length = Xd.2 := by rw [← hC.2.2.2.1.2, rl_len]
  have hdg : ∀ j, j < df.length → Xd.1 j = lf df j := fun j hj => by rw [← hdf, lf, rl_getD (by omega)]
  refine lv_iload_n hx hb dX2_read_0 rfl (lv_at hl 1 rfl) ?_
  refine wd_callSi (As := [.int t]) (rest := []) (c2 := 0) (s2 := 0) ⟨hx, hb, hml, hown, hts⟩ (k_X2_isNoText l D cI cT w sg.heap.size t ) (va_cwS 1 hts gX2_read_X2_isNoText rfl rfl rfl (by decide +kernel) ⟨Nat.le_of_ble_eq_true rfl, Nat.le_of_ble_eq_true rfl⟩) gK_ok hK hW hS hA rfl hl.1 rfl (Nat.le_of_ble_eq_true rfl) dX2_read_1 ⟨Nat.le_of_ble_eq_true rfl, Nat.le_of_ble_eq_true rfl⟩ rfl rfl (fun r_1 w_1 H locs hp_1 hW hz hS => ?_)
  obtain ⟨q_r, q_w⟩ := hp_1
  subst r_1
  subst w_1
  refine lv_if_ne (tgt := 21) hx hb dX2_read_4 (by decide) (fun c_4 => ?_) (fun c_4 => ?_)
  ·
    have c_4 := j_bn c_4
    refine lv_ldc (v := (-2000000001)) hx hb hown (hts (.constant RX2 47 (-2000000001)) (by decide +kernel)) dX2_read_21 ?_
    refine W.widen (k := 2) (n := 242) (by omega) (by omega) ?_
    refine wd_iret hx hb hr hlocks hW hS dX2_read_23 ?_
    have e9 : s_read (cd, pl, df, tx, kp, rs) t u form = ((-2000000001), cd, pl, df, tx, kp, rs) := by simp only [s_read, if_pos (Or.inl c_4), s_w1, s_no, s_mk, s_brk]
    show _ = (s_read (cd, pl, df, tx, kp, rs) t u form).1 ∧ InvC cI cT o (s_read (cd, pl, df, tx, kp, rs) t u form).2 _
    rw [e9]
    exact ⟨rfl, tA, kA, dr, drI, wk, wkI, sw, swI, aT, aI, Xd, hC⟩
  ·
    have c_4 := j_b0 c_4
    obtain ⟨tN, htN, htE⟩ := nt_spec c_4
    subst htE
    have hcl_t : (nI tN).toNatClampNeg = tN := nI_clamp (by omega)
    refine lv_iload_n hx hb dX2_read_7 rfl (lv_at hl 2 rfl) ?_
    refine wd_callSi (As := [.int u]) (rest := []) (c2 := 0) (s2 := 0) ⟨hx, hb, hml, hown, hts⟩ (k_X2_isNoText l D cI cT w H.size u ) (va_cwS 1 hts gX2_read_X2_isNoText rfl rfl rfl (by decide +kernel) ⟨Nat.le_of_ble_eq_true rfl, Nat.le_of_ble_eq_true rfl⟩) gK_ok hK hW hS hA rfl hl.1 rfl (Nat.le_of_ble_eq_true rfl) dX2_read_8 ⟨Nat.le_of_ble_eq_true rfl, Nat.le_of_ble_eq_true rfl⟩ rfl rfl (fun r_8 w_8 H locs hp_8 hW hz hS => ?_)
    obtain ⟨q_r, q_w⟩ := hp_8
    subst r_8
    subst w_8
    refine lv_if_ne (tgt := 21) hx hb dX2_read_11 (by decide) (fun c_11 => ?_) (fun c_11 => ?_)
    ·
      have c_11 := j_bn c_11
      refine lv_ldc (v := (-2000000001)) hx hb hown (hts (.constant RX2 47 (-2000000001)) (by decide +kernel)) dX2_read_21 ?_
      refine W.widen (k := 2) (n := 242) (by omega) (by omega) ?_
      refine wd_iret hx hb hr hlocks hW hS dX2_read_23 ?_
      have e9 : s_read (cd, pl, df, tx, kp, rs) (nI tN) u form = ((-2000000001), cd, pl, df, tx, kp, rs) := by simp only [s_read, if_pos (Or.inr (Or.inl c_11)), s_w1, s_no, s_mk, s_brk, hcl_t]
      show _ = (s_read (cd, pl, df, tx, kp, rs) (nI tN) u form).1 ∧ InvC cI cT o (s_read (cd, pl, df, tx, kp, rs) (nI tN) u form).2 _
      rw [e9]
      exact ⟨rfl, tA, kA, dr, drI, wk, wkI, sw, swI, aT, aI, Xd, hC⟩
    ·
      have c_11 := j_b0 c_11
      obtain ⟨uN, huN, huE⟩ := nt_spec c_11
      subst huE
      have hcl_u : (nI uN).toNatClampNeg = uN := nI_clamp (by omega)
      refine lv_iload_n hx hb dX2_read_14 rfl (lv_at hl 3 rfl) ?_
      refine wd_callSi (As := [.int form]) (rest := []) (c2 := 0) (s2 := 0) ⟨hx, hb, hml, hown, hts⟩ (k_X2_isNoForm l D cI cT w H.size form ) (va_cwS 1 hts gX2_read_X2_isNoForm rfl rfl rfl (by decide +kernel) ⟨Nat.le_of_ble_eq_true rfl, Nat.le_of_ble_eq_true rfl⟩) gK_ok hK hW hS hA rfl hl.1 rfl (Nat.le_of_ble_eq_true rfl) dX2_read_15 ⟨Nat.le_of_ble_eq_true rfl, Nat.le_of_ble_eq_true rfl⟩ rfl rfl (fun r_15 w_15 H locs hp_15 hW hz hS => ?_)
      obtain ⟨q_r, q_w⟩ := hp_15
      subst r_15
      subst w_15
      refine lv_if_eq (tgt := 24) hx hb dX2_read_18 (by decide) (fun c_18 => ?_) (fun c_18 => ?_)
      ·
        have c_18 := j_b0 c_18
        refine lv_aload_n hx hb dX2_read_24 rfl (lv_at hl 0 rfl) ?_
        refine wd_get (ci := 2) (v := .ref tA) (C := RX2) (T := TX2) (N := 8) hx hb hts (by decide +kernel) hown hK.1 hW hC.1 rfl 0 (by decide) (hts (.fieldLink RX2 11 "CharRows" "texts" "[LCharRows$Text;") (by decide +kernel)) (fun _ h9 => h9) rfl dX2_read_25 ?_
        refine lv_iload_n hx hb dX2_read_28 rfl (lv_at hl 2 rfl) ?_
        refine wd_aldq hx hb hK.1 hW 1 hC.2.1 rfl (vp_in_nI (by omega) (by omega)) dX2_read_29 ?_
        rw [nI_clamp (by omega)]
        cases htx_29 : tx uN with
        | none =>
          refine wd_topR (y := .null) (by simp [htx_29, va_rf]) ?_
          refine lv_astoreN (lv' := [(4, .null), (0, .ref o), (1, .int (nI tN)), (2, .int (nI uN)), (3, .int form)]) hx hb dX2_read_30 hl (by decide) rfl (fun ls hl => ?_)
          refine lv_aloadN hx hb dX2_read_32 (lv_at hl 0 rfl) ?_
          refine lv_ifnonnullN hx hb dX2_read_34 ?_
          refine lv_aload_n hx hb dX2_read_37 rfl (lv_at hl 1 rfl) ?_
          refine lv_iconst (v := 1) hx hb dX2_read_38 (by decide) ?_
          refine wd_callVi (As := [.int 1]) (rest := []) (c2 := 0) (s2 := 0) ⟨hx, hb, hml, hown, hts⟩ (k_X2_refuse l D cI cT w H.size o tA kA (nI kp.length) dr wk sw cd pl 1 hC.1) (cwV 1 hts gX2_read_X2_refuse rfl rfl rfl (by decide +kernel) ⟨Nat.le_of_ble_eq_true rfl, Nat.le_of_ble_eq_true rfl⟩) gK_ok hK hW (wd_recv (ci := 2) hK.1 hW rfl hC.1) hS hA rfl hl.1 rfl (Nat.le_of_ble_eq_true rfl) dX2_read_39 ⟨Nat.le_of_ble_eq_true rfl, Nat.le_of_ble_eq_true rfl⟩ rfl rfl (fun r_39 w_39 H locs hp_39 hW hz hS => ?_)
          obtain ⟨q_r, q_w⟩ := hp_39
          subst r_39
          subst w_39
          have hC := hC.obj 1 pl
          refine W.widen (k := 2) (n := 242) (by omega) (by omega) ?_
          refine wd_iret hx hb hr hlocks hW hS dX2_read_42 ?_
          have e9 : s_read (cd, pl, df, tx, kp, rs) (nI tN) (nI uN) form = (0, 1, pl, df, tx, kp, rs) := by simp only [s_read, if_neg (not_or.mpr ⟨c_4, (not_or.mpr ⟨c_11, c_18⟩)⟩), s_w1, s_no, s_mk, s_brk, hcl_t, hcl_u, htx_29]
          show _ = (s_read (cd, pl, df, tx, kp, rs) (nI tN) (nI uN) form).1 ∧ InvC cI cT o (s_read (cd, pl, df, tx, kp, rs) (nI tN) (nI uN) form).2 _
          rw [e9]
          exact ⟨rfl, tA, kA, dr, drI, wk, wkI, sw, swI, aT, aI, Xd, hC⟩
        | some r_29 =>
          refine wd_topR (y := .ref (aT r_29)) (by simp [htx_29, va_rf]) ?_
          have hl_29 : live tx kp r_29 := Or.inl ⟨_, htx_29⟩
          have hok_29 : rOK (rs r_29) := (hwf.2.2.2.1 r_29 hl_29).2
          have hlen_29 := hok_29.len
          refine lv_astore (lv' := [(4, .ref (aT r_29)), (0, .ref o), (1, .int (nI tN)), (2, .int (nI uN)), (3, .int form)]) hx hb dX2_read_30 hl (by decide) rfl (fun ls hl => ?_)
          refine lv_aload hx hb dX2_read_32 (lv_at hl 0 rfl) ?_
          refine lv_ifnonnull (tgt := 43) hx hb dX2_read_34 (by decide) ?_
          refine lv_aload hx hb dX2_read_43 (lv_at hl 0 rfl) ?_
          refine wd_get (ci := 1) (v := .int ((rs r_29).1)) (C := RX1) (T := TX1) (N := 2) hx hb hts (by decide +kernel) hown hK.1 hW (hC.2.2.2.2.2.2.2.1 r_29 hl_29).1 rfl 0 (by decide) (hts (.fieldLink RX2 94 "CharRows$Text" "kindOfItems" "I") (by decide +kernel)) (fun _ h9 => h9) rfl dX2_read_45 ?_
          refine lv_iconst (v := 2) hx hb dX2_read_48 (by decide) ?_
          refine lv_icmp_eq (tgt := 58) hx hb dX2_read_49 (by decide) (fun c_49 => ?_) (fun c_49 => ?_)
          ·
            have hr2 : ∀ v ∈ (rs r_29).2, 0 ≤ v.toInt ∧ v.toInt ≤ 255 := by rcases hok_29 with q | q | q; exact absurd (q.1.symm.trans c_49) (by decide); exact absurd (q.1.symm.trans c_49) (by decide); exact q.2.2
            obtain ⟨hrd1, hrd2, hrd3⟩ := ru_rd (form := form) (X := Xw) (xs := (rs r_29).2) (by omega) hr2
            refine lv_aload hx hb dX2_read_58 (lv_at hl 0 rfl) ?_
            refine wd_get (ci := 1) (v := .ref (aI r_29)) (C := RX1) (T := TX1) (N := 2) hx hb hts (by decide +kernel) hown hK.1 hW (hC.2.2.2.2.2.2.2.1 r_29 hl_29).1 rfl 1 (by decide) (hts (.fieldLink RX2 93 "CharRows$Text" "items" "[I") (by decide +kernel)) (fun _ h9 => h9) rfl dX2_read_60 ?_
            refine lv_iload_n hx hb dX2_read_63 rfl (lv_at hl 4 rfl) ?_
            refine lv_aload_n hx hb dX2_read_64 rfl (lv_at hl 1 rfl) ?_
            refine wd_get (ci := 2) (v := .ref wk) (C := RX2) (T := TX2) (N := 8) hx hb hts (by decide +kernel) hown hK.1 hW hC.1 rfl 4 (by decide) (hts (.fieldLink RX2 31 "CharRows" "work" "LCharRows$Row;") (by decide +kernel)) (fun _ h9 => h9) rfl dX2_read_65 ?_
            refine wd_callSi (As := [.ref (aI r_29), .int form, .ref wk]) (rest := []) (c2 := 0) (s2 := 0) ⟨hx, hb, hml, hown, hts⟩ (k_X2_readUnits l D cI cT w H.size wk wkI 240 Xw (aI r_29) ((rs r_29).2.length) (lf (rs r_29).2) form hXw ((hC.2.2.2.2.2.2.2.1 r_29 hl_29).2.1) (by omega) ((hC.2.2.2.2.2.2.2.1 r_29 hl_29).2.2.2.1)) (va_cwS 3 hts gX2_read_X2_readUnits rfl rfl rfl (by decide +kernel) ⟨Nat.le_of_ble_eq_true rfl, Nat.le_of_ble_eq_true rfl⟩) gK_ok hK hW hS hA rfl hl.1 rfl (Nat.le_of_ble_eq_true rfl) dX2_read_68 ⟨Nat.le_of_ble_eq_true rfl, Nat.le_of_ble_eq_true rfl⟩ rfl rfl (fun r_68 w_68 H locs hp_68 hW hz hS => ?_)
            obtain ⟨q_r, q_w⟩ := hp_68
            subst r_68
            subst w_68
            have hXs := hC.kWS (Y := (j_ru 240 (lf (rs r_29).2) ((rs r_29).2.length) form Xw).2) hXs
            have hXw : rowAt (rowSet w wk wkI cI 240 ((j_ru 240 (lf (rs r_29).2) ((rs r_29).2.length) form Xw).2)) wk wkI cI 240 ((j_ru 240 (lf (rs r_29).2) ((rs r_29).2.length) form Xw).2) := rowSet_at hXw.ne j_ru_le (by omega)
            have hC := hC.work ((j_ru 240 (lf (rs r_29).2) ((rs r_29).2.length) form Xw).2) hXw.2.2.1
            have hXc_68 := hXw.2.2.1
            refine lv_istore (lv' := [(5, .int ((j_ru 240 (lf (rs r_29).2) ((rs r_29).2.length) form Xw).1)), (4, .ref (aT r_29)), (0, .ref o), (1, .int (nI tN)), (2, .int (nI uN)), (3, .int form)]) hx hb dX2_read_71 hl (by decide) rfl (fun ls hl => ?_)
            refine lv_iload hx hb dX2_read_73 (lv_at hl 0 rfl) ?_
            refine lv_iconst (v := (-1)) hx hb dX2_read_75 (by decide) ?_
            refine lv_icmp_eq (tgt := 86) hx hb dX2_read_76 (by decide) (fun c_76 => ?_) (fun c_76 => ?_)
            ·
              refine lv_aload_n hx hb dX2_read_86 rfl (lv_at hl 2 rfl) ?_
              refine wd_get (ci := 2) (v := .ref wk) (C := RX2) (T := TX2) (N := 8) hx hb hts (by decide +kernel) hown hK.1 hW hC.1 rfl 4 (by decide) (hts (.fieldLink RX2 31 "CharRows" "work" "LCharRows$Row;") (by decide +kernel)) (fun _ h9 => h9) rfl dX2_read_87 ?_
              refine wd_get (ci := 0) (v := .int (nI (((j_ru 240 (lf (rs r_29).2) ((rs r_29).2.length) form Xw).2).2))) (C := RX0) (T := TX0) (N := 2) hx hb hts (by decide +kernel) hown hK.1 hW hXw.1 rfl 1 (by decide) (hts (.fieldLink RX2 48 "CharRows$Row" "count" "I") (by decide +kernel)) (fun _ h9 => h9) rfl dX2_read_90 ?_
              refine lv_bipush (v := 60) hx hb dX2_read_93 (by decide) ?_
              refine lv_icmp_le (tgt := 105) hx hb dX2_read_95 (by decide) (fun c_95 => ?_) (fun c_95 => ?_)
              ·
                have c_95 : ((j_ru 240 (lf (rs r_29).2) ((rs r_29).2.length) form Xw).2).2 ≤ 60 := (nI_leI (by omega) (by omega)).mp (show (nI (((j_ru 240 (lf (rs r_29).2) ((rs r_29).2.length) form Xw).2).2) ≤ nI 60) from c_95)
                refine lv_aload_n hx hb dX2_read_105 rfl (lv_at hl 2 rfl) ?_
                refine lv_iload_n hx hb dX2_read_106 rfl (lv_at hl 3 rfl) ?_
                refine lv_iconst (v := 0) hx hb dX2_read_107 (by decide) ?_
                refine lv_aload_n hx hb dX2_read_108 rfl (lv_at hl 2 rfl) ?_
                refine wd_get (ci := 2) (v := .ref wk) (C := RX2) (T := TX2) (N := 8) hx hb hts (by decide +kernel) hown hK.1 hW hC.1 rfl 4 (by decide) (hts (.fieldLink RX2 31 "CharRows" "work" "LCharRows$Row;") (by decide +kernel)) (fun _ h9 => h9) rfl dX2_read_109 ?_
                refine wd_callVi (As := [.int (nI tN), .int 0, .ref wk]) (rest := []) (c2 := 2) (s2 := 242) ⟨hx, hb, hml, hown, hts⟩ (k_X2_setText l D cI cT (rowSet w wk wkI cI 240 ((j_ru 240 (lf (rs r_29).2) ((rs r_29).2.length) form Xw).2)) H.size o tA kA (nI kp.length) dr wk sw cd pl (fun t => (tx t).map aT) tN 0 wk wkI 240 ((j_ru 240 (lf (rs r_29).2) ((rs r_29).2.length) form Xw).2) hC.1 hC.2.1 (by omega) hXw) (cwV 3 hts gX2_read_X2_setText rfl rfl rfl (by decide +kernel) ⟨Nat.le_of_ble_eq_true rfl, Nat.le_of_ble_eq_true rfl⟩) gK_ok hK hW (wd_recv (ci := 2) hK.1 hW rfl hC.1) hS hA rfl hl.1 rfl (Nat.le_of_ble_eq_true rfl) dX2_read_112 ⟨Nat.le_of_ble_eq_true rfl, Nat.le_of_ble_eq_true rfl⟩ rfl rfl (fun r_112 w_112 H locs hp_112 hW hz hS => ?_)
                obtain ⟨q_r, q_e⟩ := hp_112
                subst r_112
                obtain ⟨w_s, aT', aI', hW, hC⟩ := c_setText hC (u_free_spec hwf.2.1 hwf.2.2.1).1 q_e hW
                refine wd_iret hx hb hr hlocks hW hS dX2_read_115 ?_
                have e9 : s_read (cd, pl, df, tx, kp, rs) (nI tN) (nI uN) form = (nI (((j_ru 240 (lf (rs r_29).2) ((rs r_29).2.length) form Xw).2).2), 0, pl, df, (va_up tx tN (some (u_free tx kp))), kp, (va_up rs (u_free tx kp) (0, rl ((j_ru 240 (lf (rs r_29).2) ((rs r_29).2.length) form Xw).2)))) := by simp only [s_read, if_neg (not_or.mpr ⟨c_4, (not_or.mpr ⟨c_11, c_18⟩)⟩), s_w1, s_no, s_mk, s_brk, if_neg (not_not_intro c_49), ← hrd1, if_neg (not_not_intro c_76), if_neg (show ¬ 60 < (u_rd form (rs r_29).2 (rs r_29).2.length 0 []).2.length from fun q => absurd (hrd2.mpr q) (by omega)), hcl_t, hcl_u, htx_29]; rw [← hrd3 (by omega), rl_len]
                show _ = (s_read (cd, pl, df, tx, kp, rs) (nI tN) (nI uN) form).1 ∧ InvC cI cT o (s_read (cd, pl, df, tx, kp, rs) (nI tN) (nI uN) form).2 _
                rw [e9]
                exact ⟨rfl, tA, kA, dr, drI, wk, wkI, sw, swI, aT', aI', Xd, hC⟩
              ·
                have c_95 : ¬ (((j_ru 240 (lf (rs r_29).2) ((rs r_29).2.length) form Xw).2).2 ≤ 60) := fun q9 => absurd ((nI_leI (by omega) (by omega)).mpr q9) (show ¬ (nI (((j_ru 240 (lf (rs r_29).2) ((rs r_29).2.length) form Xw).2).2) ≤ nI 60) from c_95)
                refine lv_aload_n hx hb dX2_read_98 rfl (lv_at hl 2 rfl) ?_
                refine lv_bipush (v := 6) hx hb dX2_read_99 (by decide) ?_
                refine wd_callVi (As := [.int 6]) (rest := []) (c2 := 0) (s2 := 0) ⟨hx, hb, hml, hown, hts⟩ (k_X2_refuse l D cI cT (rowSet w wk wkI cI 240 ((j_ru 240 (lf (rs r_29).2) ((rs r_29).2.length) form Xw).2)) H.size o tA kA (nI kp.length) dr wk sw cd pl 6 hC.1) (cwV 1 hts gX2_read_X2_refuse rfl rfl rfl (by decide +kernel) ⟨Nat.le_of_ble_eq_true rfl, Nat.le_of_ble_eq_true rfl⟩) gK_ok hK hW (wd_recv (ci := 2) hK.1 hW rfl hC.1) hS hA rfl hl.1 rfl (Nat.le_of_ble_eq_true rfl) dX2_read_101 ⟨Nat.le_of_ble_eq_true rfl, Nat.le_of_ble_eq_true rfl⟩ rfl rfl (fun r_101 w_101 H locs hp_101 hW hz hS => ?_)
                obtain ⟨q_r, q_w⟩ := hp_101
                subst r_101
                subst w_101
                have hC := hC.obj 6 pl
                refine W.widen (k := 2) (n := 242) (by omega) (by omega) ?_
                refine wd_iret hx hb hr hlocks hW hS dX2_read_104 ?_
                have e9 : s_read (cd, pl, df, tx, kp, rs) (nI tN) (nI uN) form = (0, 6, pl, df, tx, kp, rs) := by simp only [s_read, if_neg (not_or.mpr ⟨c_4, (not_or.mpr ⟨c_11, c_18⟩)⟩), s_w1, s_no, s_mk, s_brk, if_neg (not_not_intro c_49), ← hrd1, if_neg (not_not_intro c_76), if_pos (show 60 < (u_rd form (rs r_29).2 (rs r_29).2.length 0 []).2.length from hrd2.mp (by omega)), hcl_t, hcl_u, htx_29]
                show _ = (s_read (cd, pl, df, tx, kp, rs) (nI tN) (nI uN) form).1 ∧ InvC cI cT o (s_read (cd, pl, df, tx, kp, rs) (nI tN) (nI uN) form).2 _
                rw [e9]
                exact ⟨rfl, tA, kA, dr, drI, wk, wkI, sw, swI, aT, aI, Xd, hC⟩
            ·
              refine lv_aload_n hx hb dX2_read_79 rfl (lv_at hl 2 rfl) ?_
              refine lv_iload hx hb dX2_read_80 (lv_at hl 0 rfl) ?_
              refine wd_callVi (As := [.int ((j_ru 240 (lf (rs r_29).2) ((rs r_29).2.length) form Xw).1)]) (rest := []) (c2 := 0) (s2 := 0) ⟨hx, hb, hml, hown, hts⟩ (k_X2_refuseAt l D cI cT (rowSet w wk wkI cI 240 ((j_ru 240 (lf (rs r_29).2) ((rs r_29).2.length) form Xw).2)) H.size o tA kA (nI kp.length) dr wk sw cd pl ((j_ru 240 (lf (rs r_29).2) ((rs r_29).2.length) form Xw).1) hC.1) (cwV 1 hts gX2_read_X2_refuseAt rfl rfl rfl (by decide +kernel) ⟨Nat.le_of_ble_eq_true rfl, Nat.le_of_ble_eq_true rfl⟩) gK_ok hK hW (wd_recv (ci := 2) hK.1 hW rfl hC.1) hS hA rfl hl.1 rfl (Nat.le_of_ble_eq_true rfl) dX2_read_82 ⟨Nat.le_of_ble_eq_true rfl, Nat.le_of_ble_eq_true rfl⟩ rfl rfl (fun r_82 w_82 H locs hp_82 hW hz hS => ?_)
              obtain ⟨q_r, q_w⟩ := hp_82
              subst r_82
              subst w_82
              have hC := hC.obj 5 ((j_ru 240 (lf (rs r_29).2) ((rs r_29).2.length) form Xw).1)
              refine W.widen (k := 2) (n := 242) (by omega) (by omega) ?_
              refine wd_iret hx hb hr hlocks hW hS dX2_read_85 ?_
              have e9 : s_read (cd, pl, df, tx, kp, rs) (nI tN) (nI uN) form = (0, 5, (j_ru 240 (lf (rs r_29).2) ((rs r_29).2.length) form Xw).1, df, tx, kp, rs) := by simp only [s_read, if_neg (not_or.mpr ⟨c_4, (not_or.mpr ⟨c_11, c_18⟩)⟩), s_w1, s_no, s_mk, s_brk, if_neg (not_not_intro c_49), ← hrd1, if_pos c_76, hcl_t, hcl_u, htx_29]
              show _ = (s_read (cd, pl, df, tx, kp, rs) (nI tN) (nI uN) form).1 ∧ InvC cI cT o (s_read (cd, pl, df, tx, kp, rs) (nI tN) (nI uN) form).2 _
              rw [e9]
              exact ⟨rfl, tA, kA, dr, drI, wk, wkI, sw, swI, aT, aI, Xd, hC⟩
          ·
            refine lv_aload_n hx hb dX2_read_52 rfl (lv_at hl 1 rfl) ?_
            refine lv_iconst (v := 2) hx hb dX2_read_53 (by decide) ?_
            refine wd_callVi (As := [.int 2]) (rest := []) (c2 := 0) (s2 := 0) ⟨hx, hb, hml, hown, hts⟩ (k_X2_refuse l D cI cT w H.size o tA kA (nI kp.length) dr wk sw cd pl 2 hC.1) (cwV 1 hts gX2_read_X2_refuse rfl rfl rfl (by decide +kernel) ⟨Nat.le_of_ble_eq_true rfl, Nat.le_of_ble_eq_true rfl⟩) gK_ok hK hW (wd_recv (ci := 2) hK.1 hW rfl hC.1) hS hA rfl hl.1 rfl (Nat.le_of_ble_eq_true rfl) dX2_read_54 ⟨Nat.le_of_ble_eq_true rfl, Nat.le_of_ble_eq_true rfl⟩ rfl rfl (fun r_54 w_54 H locs hp_54 hW hz hS => ?_)
            obtain ⟨q_r, q_w⟩ := hp_54
            subst r_54
            subst w_54
            have hC := hC.obj 2 pl
            refine W.widen (k := 2) (n := 242) (by omega) (by omega) ?_
            refine wd_iret hx hb hr hlocks hW hS dX2_read_57 ?_
            have e9 : s_read (cd, pl, df, tx, kp, rs) (nI tN) (nI uN) form = (0, 2, pl, df, tx, kp, rs) := by simp only [s_read, if_neg (not_or.mpr ⟨c_4, (not_or.mpr ⟨c_11, c_18⟩)⟩), s_w1, s_no, s_mk, s_brk, if_pos c_49, hcl_t, hcl_u, htx_29]
            show _ = (s_read (cd, pl, df, tx, kp, rs) (nI tN) (nI uN) form).1 ∧ InvC cI cT o (s_read (cd, pl, df, tx, kp, rs) (nI tN) (nI uN) form).2 _
            rw [e9]
            exact ⟨rfl, tA, kA, dr, drI, wk, wkI, sw, swI, aT, aI, Xd, hC⟩
      ·
        have c_18 := j_bn c_18
        refine lv_ldc (v := (-2000000001)) hx hb hown (hts (.constant RX2 47 (-2000000001)) (by decide +kernel)) dX2_read_21 ?_
        refine W.widen (k := 2) (n := 242) (by omega) (by omega) ?_
        refine wd_iret hx hb hr hlocks hW hS dX2_read_23 ?_
        have e9 : s_read (cd, pl, df, tx, kp, rs) (nI tN) (nI uN) form = ((-2000000001), cd, pl, df, tx, kp, rs) := by simp only [s_read, if_pos (Or.inr (Or.inr c_18)), s_w1, s_no, s_mk, s_brk, hcl_t, hcl_u]
        show _ = (s_read (cd, pl, df, tx, kp, rs) (nI tN) (nI uN) form).1 ∧ InvC cI cT o (s_read (cd, pl, df, tx, kp, rs) (nI tN) (nI uN) form).2 _
        rw [e9]
        exact ⟨rfl, tA, kA, dr, drI, wk, wkI, sw, swI, aT, aI, Xd, hC⟩
