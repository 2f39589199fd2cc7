set_option maxHeartbeats 4000000 in
set_option maxRecDepth 100000 in
theorem k_X2_compare (l : Launch) (D : va_G) (cI cT : ClassId) (w : Wd) (sz : Nat) (o : Nat) (cd : Int32) (pl : Int32) (df : List Int32) (tx : Nat → Option Nat) (kp : List Nat) (rs : Rws) (a : Int32) (b : Int32) (way : Int32) (hwf : WF (cd, pl, df, tx, kp, rs)) (hI : InvC cI cT o (cd, pl, df, tx, kp, rs) w) : wd_Mi l D vwCl (gK D cI cT) yX2_compare wsX2_compare (wd_rm 4 0 0) [.ref o, .int a, .int b, .int way] w sz (fun r w' => r = (s_compare (cd, pl, df, tx, kp, rs) a b way).1 ∧ InvC cI cT o (s_compare (cd, pl, df, tx, kp, rs) a b way).2 w') := by
  refine wd_met (cc := cX2_compare) (maxL := 6) (ret := (some .int)) (by decide) rfl (Nat.le_of_ble_eq_true rfl) ?_
  intro pg ev sg mi bl mt cde ls C0 hsz hK hW hl
  obtain ⟨hx, hb, hr, hml, hown, hts, hlocks, hnm⟩ := C0
  subst hsz
  have hown : sg.vm.findClass RX2 = some mi.cls := hown
  have hS : va_S (wd_A w sg.heap.size) sg.heap sg.heap [] := va_S.rf
  have hA : ∀ q, sg.heap.size ≤ q → wd_A w sg.heap.size q := fun q h => Or.inr h
  have hl : lv_has ls 6 [(0, .ref o), (1, .int a), (2, .int b), (3, .int way)] := hl
  obtain ⟨tA, kA, dr, drI, wk, wkI, sw, swI, aT, aI, Xd, hC⟩ := hI
  dsimp only at hC
  obtain ⟨Xw, hXw⟩ := hC.2.2.2.2.1
  obtain ⟨Xs, hXs⟩ := hC.2.2.2.2.2.1
  have hXd1 := hC.2.2.2.1.1.2.2.1
  have hdf := hC.2.2.2.1.2
  have hkp : kp.length ≤ 12 := hwf.2.2.1
  have hdl : df.length = Xd.2 := by rw [← hC.2.2.2.1.2, rl_len]
  have hdg : ∀ j, j < df.length → Xd.1 j = lf df j := fun j hj => by rw [← hdf, lf, rl_getD (by omega)]
  refine lv_iload_n hx hb dX2_compare_0 rfl (lv_at hl 1 rfl) ?_
  refine wd_callSi (As := [.int a]) (rest := []) (c2 := 0) (s2 := 0) ⟨hx, hb, hml, hown, hts⟩ (k_X2_isNoText l D cI cT w sg.heap.size a ) (va_cwS 1 hts gX2_compare_X2_isNoText rfl rfl rfl (by decide +kernel) ⟨Nat.le_of_ble_eq_true rfl, Nat.le_of_ble_eq_true rfl⟩) gK_ok hK hW hS hA rfl hl.1 rfl (Nat.le_of_ble_eq_true rfl) dX2_compare_1 ⟨Nat.le_of_ble_eq_true rfl, Nat.le_of_ble_eq_true rfl⟩ rfl rfl (fun r_1 w_1 H locs hp_1 hW hz hS => ?_)
  obtain ⟨q_r, q_w⟩ := hp_1
  subst r_1
  subst w_1
  refine lv_if_ne (tgt := 21) hx hb dX2_compare_4 (by decide) (fun c_4 => ?_) (fun c_4 => ?_)
  ·
    have c_4 := j_bn c_4
    refine lv_ldc (v := (-2000000001)) hx hb hown (hts (.constant RX2 47 (-2000000001)) (by decide +kernel)) dX2_compare_21 ?_
    refine wd_iret hx hb hr hlocks hW hS dX2_compare_23 ?_
    have e9 : s_compare (cd, pl, df, tx, kp, rs) a b way = ((-2000000001), cd, pl, df, tx, kp, rs) := by simp only [s_compare, if_pos (Or.inl c_4), s_w2, s_no, s_yes]
    show _ = (s_compare (cd, pl, df, tx, kp, rs) a b way).1 ∧ InvC cI cT o (s_compare (cd, pl, df, tx, kp, rs) a b way).2 _
    rw [e9]
    exact ⟨rfl, tA, kA, dr, drI, wk, wkI, sw, swI, aT, aI, Xd, hC⟩
  ·
    have c_4 := j_b0 c_4
    obtain ⟨aN, haN, haE⟩ := nt_spec c_4
    subst haE
    have hcl_a : (nI aN).toNatClampNeg = aN := nI_clamp (by omega)
    refine lv_iload_n hx hb dX2_compare_7 rfl (lv_at hl 2 rfl) ?_
    refine wd_callSi (As := [.int b]) (rest := []) (c2 := 0) (s2 := 0) ⟨hx, hb, hml, hown, hts⟩ (k_X2_isNoText l D cI cT w H.size b ) (va_cwS 1 hts gX2_compare_X2_isNoText rfl rfl rfl (by decide +kernel) ⟨Nat.le_of_ble_eq_true rfl, Nat.le_of_ble_eq_true rfl⟩) gK_ok hK hW hS hA rfl hl.1 rfl (Nat.le_of_ble_eq_true rfl) dX2_compare_8 ⟨Nat.le_of_ble_eq_true rfl, Nat.le_of_ble_eq_true rfl⟩ rfl rfl (fun r_8 w_8 H locs hp_8 hW hz hS => ?_)
    obtain ⟨q_r, q_w⟩ := hp_8
    subst r_8
    subst w_8
    refine lv_if_ne (tgt := 21) hx hb dX2_compare_11 (by decide) (fun c_11 => ?_) (fun c_11 => ?_)
    ·
      have c_11 := j_bn c_11
      refine lv_ldc (v := (-2000000001)) hx hb hown (hts (.constant RX2 47 (-2000000001)) (by decide +kernel)) dX2_compare_21 ?_
      refine wd_iret hx hb hr hlocks hW hS dX2_compare_23 ?_
      have e9 : s_compare (cd, pl, df, tx, kp, rs) (nI aN) b way = ((-2000000001), cd, pl, df, tx, kp, rs) := by simp only [s_compare, if_pos (Or.inr (Or.inl c_11)), s_w2, s_no, s_yes, hcl_a]
      show _ = (s_compare (cd, pl, df, tx, kp, rs) (nI aN) b way).1 ∧ InvC cI cT o (s_compare (cd, pl, df, tx, kp, rs) (nI aN) b way).2 _
      rw [e9]
      exact ⟨rfl, tA, kA, dr, drI, wk, wkI, sw, swI, aT, aI, Xd, hC⟩
    ·
      have c_11 := j_b0 c_11
      obtain ⟨bN, hbN, hbE⟩ := nt_spec c_11
      subst hbE
      have hcl_b : (nI bN).toNatClampNeg = bN := nI_clamp (by omega)
      refine lv_iload_n hx hb dX2_compare_14 rfl (lv_at hl 3 rfl) ?_
      refine wd_callSi (As := [.int way]) (rest := []) (c2 := 0) (s2 := 0) ⟨hx, hb, hml, hown, hts⟩ (k_X2_isNoWay l D cI cT w H.size way ) (va_cwS 1 hts gX2_compare_X2_isNoWay rfl rfl rfl (by decide +kernel) ⟨Nat.le_of_ble_eq_true rfl, Nat.le_of_ble_eq_true rfl⟩) gK_ok hK hW hS hA rfl hl.1 rfl (Nat.le_of_ble_eq_true rfl) dX2_compare_15 ⟨Nat.le_of_ble_eq_true rfl, Nat.le_of_ble_eq_true rfl⟩ rfl rfl (fun r_15 w_15 H locs hp_15 hW hz hS => ?_)
      obtain ⟨q_r, q_w⟩ := hp_15
      subst r_15
      subst w_15
      refine lv_if_eq (tgt := 24) hx hb dX2_compare_18 (by decide) (fun c_18 => ?_) (fun c_18 => ?_)
      ·
        have c_18 := j_b0 c_18
        refine lv_aload_n hx hb dX2_compare_24 rfl (lv_at hl 0 rfl) ?_
        refine wd_get (ci := 2) (v := .ref tA) (C := RX2) (T := TX2) (N := 8) hx hb hts (by decide +kernel) hown hK.1 hW hC.1 rfl 0 (by decide) (hts (.fieldLink RX2 11 "CharRows" "texts" "[LCharRows$Text;") (by decide +kernel)) (fun _ h9 => h9) rfl dX2_compare_25 ?_
        refine lv_iload_n hx hb dX2_compare_28 rfl (lv_at hl 1 rfl) ?_
        refine wd_aldq hx hb hK.1 hW 1 hC.2.1 rfl (vp_in_nI (by omega) (by omega)) dX2_compare_29 ?_
        rw [nI_clamp (by omega)]
        cases htx_29 : tx aN with
        | none =>
          refine wd_topR (y := .null) (by simp [htx_29, va_rf]) ?_
          refine lv_astoreN (lv' := [(4, .null), (0, .ref o), (1, .int (nI aN)), (2, .int (nI bN)), (3, .int way)]) hx hb dX2_compare_30 hl (by decide) rfl (fun ls hl => ?_)
          refine lv_aload_n hx hb dX2_compare_32 rfl (lv_at hl 1 rfl) ?_
          refine wd_get (ci := 2) (v := .ref tA) (C := RX2) (T := TX2) (N := 8) hx hb hts (by decide +kernel) hown hK.1 hW hC.1 rfl 0 (by decide) (hts (.fieldLink RX2 11 "CharRows" "texts" "[LCharRows$Text;") (by decide +kernel)) (fun _ h9 => h9) rfl dX2_compare_33 ?_
          refine lv_iload_n hx hb dX2_compare_36 rfl (lv_at hl 3 rfl) ?_
          refine wd_aldq hx hb hK.1 hW 1 hC.2.1 rfl (vp_in_nI (by omega) (by omega)) dX2_compare_37 ?_
          rw [nI_clamp (by omega)]
          cases htx_37 : tx bN with
          | none =>
            refine wd_topR (y := .null) (by simp [htx_37, va_rf]) ?_
            refine lv_astoreN (lv' := [(5, .null), (4, .null), (0, .ref o), (1, .int (nI aN)), (2, .int (nI bN)), (3, .int way)]) hx hb dX2_compare_38 hl (by decide) rfl (fun ls hl => ?_)
            refine lv_aloadN hx hb dX2_compare_40 (lv_at hl 1 rfl) ?_
            refine lv_ifnullN (tgt := 50) hx hb dX2_compare_42 (by decide) ?_
            refine lv_aload_n hx hb dX2_compare_50 rfl (lv_at hl 2 rfl) ?_
            refine lv_iconst (v := 1) hx hb dX2_compare_51 (by decide) ?_
            refine wd_callVi (As := [.int 1]) (rest := []) (c2 := 0) (s2 := 0) ⟨hx, hb, hml, hown, hts⟩ (k_X2_refuse l D cI cT w H.size o tA kA (nI kp.length) dr wk sw cd pl 1 hC.1) (cwV 1 hts gX2_compare_X2_refuse rfl rfl rfl (by decide +kernel) ⟨Nat.le_of_ble_eq_true rfl, Nat.le_of_ble_eq_true rfl⟩) gK_ok hK hW (wd_recv (ci := 2) hK.1 hW rfl hC.1) hS hA rfl hl.1 rfl (Nat.le_of_ble_eq_true rfl) dX2_compare_52 ⟨Nat.le_of_ble_eq_true rfl, Nat.le_of_ble_eq_true rfl⟩ rfl rfl (fun r_52 w_52 H locs hp_52 hW hz hS => ?_)
            obtain ⟨q_r, q_w⟩ := hp_52
            subst r_52
            subst w_52
            have hC := hC.obj 1 pl
            refine wd_iret hx hb hr hlocks hW hS dX2_compare_55 ?_
            have e9 : s_compare (cd, pl, df, tx, kp, rs) (nI aN) (nI bN) way = (0, 1, pl, df, tx, kp, rs) := by simp only [s_compare, if_neg (not_or.mpr ⟨c_4, (not_or.mpr ⟨c_11, c_18⟩)⟩), s_w2, s_no, s_yes, hcl_a, hcl_b, htx_29, htx_37]
            show _ = (s_compare (cd, pl, df, tx, kp, rs) (nI aN) (nI bN) way).1 ∧ InvC cI cT o (s_compare (cd, pl, df, tx, kp, rs) (nI aN) (nI bN) way).2 _
            rw [e9]
            exact ⟨rfl, tA, kA, dr, drI, wk, wkI, sw, swI, aT, aI, Xd, hC⟩
          | some r_37 =>
            refine wd_topR (y := .ref (aT r_37)) (by simp [htx_37, va_rf]) ?_
            have hl_37 : live tx kp r_37 := Or.inl ⟨_, htx_37⟩
            have hok_37 : rOK (rs r_37) := (hwf.2.2.2.1 r_37 hl_37).2
            have hlen_37 := hok_37.len
            refine lv_astore (lv' := [(5, .ref (aT r_37)), (4, .null), (0, .ref o), (1, .int (nI aN)), (2, .int (nI bN)), (3, .int way)]) hx hb dX2_compare_38 hl (by decide) rfl (fun ls hl => ?_)
            refine lv_aloadN hx hb dX2_compare_40 (lv_at hl 1 rfl) ?_
            refine lv_ifnullN (tgt := 50) hx hb dX2_compare_42 (by decide) ?_
            refine lv_aload_n hx hb dX2_compare_50 rfl (lv_at hl 2 rfl) ?_
            refine lv_iconst (v := 1) hx hb dX2_compare_51 (by decide) ?_
            refine wd_callVi (As := [.int 1]) (rest := []) (c2 := 0) (s2 := 0) ⟨hx, hb, hml, hown, hts⟩ (k_X2_refuse l D cI cT w H.size o tA kA (nI kp.length) dr wk sw cd pl 1 hC.1) (cwV 1 hts gX2_compare_X2_refuse rfl rfl rfl (by decide +kernel) ⟨Nat.le_of_ble_eq_true rfl, Nat.le_of_ble_eq_true rfl⟩) gK_ok hK hW (wd_recv (ci := 2) hK.1 hW rfl hC.1) hS hA rfl hl.1 rfl (Nat.le_of_ble_eq_true rfl) dX2_compare_52 ⟨Nat.le_of_ble_eq_true rfl, Nat.le_of_ble_eq_true rfl⟩ rfl rfl (fun r_52 w_52 H locs hp_52 hW hz hS => ?_)
            obtain ⟨q_r, q_w⟩ := hp_52
            subst r_52
            subst w_52
            have hC := hC.obj 1 pl
            refine wd_iret hx hb hr hlocks hW hS dX2_compare_55 ?_
            have e9 : s_compare (cd, pl, df, tx, kp, rs) (nI aN) (nI bN) way = (0, 1, pl, df, tx, kp, rs) := by simp only [s_compare, if_neg (not_or.mpr ⟨c_4, (not_or.mpr ⟨c_11, c_18⟩)⟩), s_w2, s_no, s_yes, hcl_a, hcl_b, htx_29, htx_37]
            show _ = (s_compare (cd, pl, df, tx, kp, rs) (nI aN) (nI bN) way).1 ∧ InvC cI cT o (s_compare (cd, pl, df, tx, kp, rs) (nI aN) (nI bN) way).2 _
            rw [e9]
            exact ⟨rfl, tA, kA, dr, drI, wk, wkI, sw, swI, aT, aI, Xd, hC⟩
        | some r_29 =>
          refine wd_topR (y := .ref (aT r_29)) (by simp [htx_29, va_rf]) ?_
          have hl_29 : live tx kp r_29 := Or.inl ⟨_, htx_29⟩
          have hok_29 : rOK (rs r_29) := (hwf.2.2.2.1 r_29 hl_29).2
          have hlen_29 := hok_29.len
          refine lv_astore (lv' := [(4, .ref (aT r_29)), (0, .ref o), (1, .int (nI aN)), (2, .int (nI bN)), (3, .int way)]) hx hb dX2_compare_30 hl (by decide) rfl (fun ls hl => ?_)
          refine lv_aload_n hx hb dX2_compare_32 rfl (lv_at hl 1 rfl) ?_
          refine wd_get (ci := 2) (v := .ref tA) (C := RX2) (T := TX2) (N := 8) hx hb hts (by decide +kernel) hown hK.1 hW hC.1 rfl 0 (by decide) (hts (.fieldLink RX2 11 "CharRows" "texts" "[LCharRows$Text;") (by decide +kernel)) (fun _ h9 => h9) rfl dX2_compare_33 ?_
          refine lv_iload_n hx hb dX2_compare_36 rfl (lv_at hl 3 rfl) ?_
          refine wd_aldq hx hb hK.1 hW 1 hC.2.1 rfl (vp_in_nI (by omega) (by omega)) dX2_compare_37 ?_
          rw [nI_clamp (by omega)]
          cases htx_37 : tx bN with
          | none =>
            refine wd_topR (y := .null) (by simp [htx_37, va_rf]) ?_
            refine lv_astoreN (lv' := [(5, .null), (4, .ref (aT r_29)), (0, .ref o), (1, .int (nI aN)), (2, .int (nI bN)), (3, .int way)]) hx hb dX2_compare_38 hl (by decide) rfl (fun ls hl => ?_)
            refine lv_aload hx hb dX2_compare_40 (lv_at hl 1 rfl) ?_
            refine lv_ifnull hx hb dX2_compare_42 ?_
            refine lv_aloadN hx hb dX2_compare_45 (lv_at hl 0 rfl) ?_
            refine lv_ifnonnullN hx hb dX2_compare_47 ?_
            refine lv_aload_n hx hb dX2_compare_50 rfl (lv_at hl 2 rfl) ?_
            refine lv_iconst (v := 1) hx hb dX2_compare_51 (by decide) ?_
            refine wd_callVi (As := [.int 1]) (rest := []) (c2 := 0) (s2 := 0) ⟨hx, hb, hml, hown, hts⟩ (k_X2_refuse l D cI cT w H.size o tA kA (nI kp.length) dr wk sw cd pl 1 hC.1) (cwV 1 hts gX2_compare_X2_refuse rfl rfl rfl (by decide +kernel) ⟨Nat.le_of_ble_eq_true rfl, Nat.le_of_ble_eq_true rfl⟩) gK_ok hK hW (wd_recv (ci := 2) hK.1 hW rfl hC.1) hS hA rfl hl.1 rfl (Nat.le_of_ble_eq_true rfl) dX2_compare_52 ⟨Nat.le_of_ble_eq_true rfl, Nat.le_of_ble_eq_true rfl⟩ rfl rfl (fun r_52 w_52 H locs hp_52 hW hz hS => ?_)
            obtain ⟨q_r, q_w⟩ := hp_52
            subst r_52
            subst w_52
            have hC := hC.obj 1 pl
            refine wd_iret hx hb hr hlocks hW hS dX2_compare_55 ?_
            have e9 : s_compare (cd, pl, df, tx, kp, rs) (nI aN) (nI bN) way = (0, 1, pl, df, tx, kp, rs) := by simp only [s_compare, if_neg (not_or.mpr ⟨c_4, (not_or.mpr ⟨c_11, c_18⟩)⟩), s_w2, s_no, s_yes, hcl_a, hcl_b, htx_29, htx_37]
            show _ = (s_compare (cd, pl, df, tx, kp, rs) (nI aN) (nI bN) way).1 ∧ InvC cI cT o (s_compare (cd, pl, df, tx, kp, rs) (nI aN) (nI bN) way).2 _
            rw [e9]
            exact ⟨rfl, tA, kA, dr, drI, wk, wkI, sw, swI, aT, aI, Xd, hC⟩
          | some r_37 =>
            refine wd_topR (y := .ref (aT r_37)) (by simp [htx_37, va_rf]) ?_
            have hl_37 : live tx kp r_37 := Or.inl ⟨_, htx_37⟩
            have hok_37 : rOK (rs r_37) := (hwf.2.2.2.1 r_37 hl_37).2
            have hlen_37 := hok_37.len
            refine lv_astore (lv' := [(5, .ref (aT r_37)), (4, .ref (aT r_29)), (0, .ref o), (1, .int (nI aN)), (2, .int (nI bN)), (3, .int way)]) hx hb dX2_compare_38 hl (by decide) rfl (fun ls hl => ?_)
            refine lv_aload hx hb dX2_compare_40 (lv_at hl 1 rfl) ?_
            refine lv_ifnull hx hb dX2_compare_42 ?_
            refine lv_aload hx hb dX2_compare_45 (lv_at hl 0 rfl) ?_
            refine lv_ifnonnull (tgt := 56) hx hb dX2_compare_47 (by decide) ?_
            refine lv_aload hx hb dX2_compare_56 (lv_at hl 1 rfl) ?_
            refine wd_get (ci := 1) (v := .int ((rs r_29).1)) (C := RX1) (T := TX1) (N := 2) hx hb hts (by decide +kernel) hown hK.1 hW (hC.2.2.2.2.2.2.2.1 r_29 hl_29).1 rfl 0 (by decide) (hts (.fieldLink RX2 94 "CharRows$Text" "kindOfItems" "I") (by decide +kernel)) (fun _ h9 => h9) rfl dX2_compare_58 ?_
            refine lv_iconst (v := 2) hx hb dX2_compare_61 (by decide) ?_
            refine lv_icmp_ne (tgt := 69) hx hb dX2_compare_62 (by decide) (fun c_62 => ?_) (fun c_62 => ?_)
            ·
              refine lv_iconst (v := 0) hx hb dX2_compare_69 (by decide) ?_
              refine lv_aload hx hb dX2_compare_70 (lv_at hl 0 rfl) ?_
              refine wd_get (ci := 1) (v := .int ((rs r_37).1)) (C := RX1) (T := TX1) (N := 2) hx hb hts (by decide +kernel) hown hK.1 hW (hC.2.2.2.2.2.2.2.1 r_37 hl_37).1 rfl 0 (by decide) (hts (.fieldLink RX2 94 "CharRows$Text" "kindOfItems" "I") (by decide +kernel)) (fun _ h9 => h9) rfl dX2_compare_72 ?_
              refine lv_iconst (v := 2) hx hb dX2_compare_75 (by decide) ?_
              refine lv_icmp_ne (tgt := 83) hx hb dX2_compare_76 (by decide) (fun c_76 => ?_) (fun c_76 => ?_)
              ·
                refine lv_iconst (v := 0) hx hb dX2_compare_83 (by decide) ?_
                refine lv_icmp_eq (tgt := 93) hx hb dX2_compare_84 (by decide) (fun c_84 => ?_) (fun c_84 => ?_)
                ·
                  refine lv_iload_n hx hb dX2_compare_93 rfl (lv_at hl 5 rfl) ?_
                  refine lv_if_ne (tgt := 118) hx hb dX2_compare_94 (by decide) (fun c_94 => ?_) (fun c_94 => ?_)
                  ·
                    refine lv_aload hx hb dX2_compare_118 (lv_at hl 1 rfl) ?_
                    refine lv_aload_n hx hb dX2_compare_120 rfl (lv_at hl 2 rfl) ?_
                    refine wd_get (ci := 2) (v := .ref wk) (C := RX2) (T := TX2) (N := 8) hx hb hts (by decide +kernel) hown hK.1 hW hC.1 rfl 4 (by decide) (hts (.fieldLink RX2 31 "CharRows" "work" "LCharRows$Row;") (by decide +kernel)) (fun _ h9 => h9) rfl dX2_compare_121 ?_
                    refine wd_callSv (As := [.ref (aT r_29), .ref wk]) (rest := []) (c2 := 0) (s2 := 0) ⟨hx, hb, hml, hown, hts⟩ (k_X2_listPoints l D cI cT w H.size (aT r_29) (aI r_29) ((rs r_29).1) ((rs r_29).2.length) (lf (rs r_29).2) wk wkI 240 Xw (⟨(hC.2.2.2.2.2.2.2.1 r_29 hl_29).1, (hC.2.2.2.2.2.2.2.1 r_29 hl_29).2.1, by omega⟩) hXw ((hC.2.2.2.2.2.2.2.1 r_29 hl_29).2.2.2.1)) (va_cwS 2 hts gX2_compare_X2_listPoints rfl rfl rfl (by decide +kernel) ⟨Nat.le_of_ble_eq_true rfl, Nat.le_of_ble_eq_true rfl⟩) gK_ok hK hW hS hA rfl hl.1 rfl (Nat.le_of_ble_eq_true rfl) dX2_compare_124 ⟨Nat.le_of_ble_eq_true rfl, Nat.le_of_ble_eq_true rfl⟩ rfl rfl (fun w_124 H locs hp_124 hW hz hS => ?_)
                    subst w_124
                    have hXs := hC.kWS (Y := r_lp 240 ((rs r_29).1) (lf (rs r_29).2) ((rs r_29).2.length) Xw) hXs
                    have hXw : rowAt (rowSet w wk wkI cI 240 (r_lp 240 ((rs r_29).1) (lf (rs r_29).2) ((rs r_29).2.length) Xw)) wk wkI cI 240 (r_lp 240 ((rs r_29).1) (lf (rs r_29).2) ((rs r_29).2.length) Xw) := rowSet_at hXw.ne r_lp_le (by omega)
                    have hC := hC.work (r_lp 240 ((rs r_29).1) (lf (rs r_29).2) ((rs r_29).2.length) Xw) hXw.2.2.1
                    have hXc_124 := hXw.2.2.1
                    refine lv_aload hx hb dX2_compare_127 (lv_at hl 0 rfl) ?_
                    refine lv_aload_n hx hb dX2_compare_129 rfl (lv_at hl 2 rfl) ?_
                    refine wd_get (ci := 2) (v := .ref sw) (C := RX2) (T := TX2) (N := 8) hx hb hts (by decide +kernel) hown hK.1 hW hC.1 rfl 5 (by decide) (hts (.fieldLink RX2 34 "CharRows" "secondWork" "LCharRows$Row;") (by decide +kernel)) (fun _ h9 => h9) rfl dX2_compare_130 ?_
                    refine wd_callSv (As := [.ref (aT r_37), .ref sw]) (rest := []) (c2 := 0) (s2 := 0) ⟨hx, hb, hml, hown, hts⟩ (k_X2_listPoints l D cI cT (rowSet w wk wkI cI 240 (r_lp 240 ((rs r_29).1) (lf (rs r_29).2) ((rs r_29).2.length) Xw)) H.size (aT r_37) (aI r_37) ((rs r_37).1) ((rs r_37).2.length) (lf (rs r_37).2) sw swI 240 Xs (⟨(hC.2.2.2.2.2.2.2.1 r_37 hl_37).1, (hC.2.2.2.2.2.2.2.1 r_37 hl_37).2.1, by omega⟩) hXs ((hC.2.2.2.2.2.2.2.1 r_37 hl_37).2.2.2.2)) (va_cwS 2 hts gX2_compare_X2_listPoints rfl rfl rfl (by decide +kernel) ⟨Nat.le_of_ble_eq_true rfl, Nat.le_of_ble_eq_true rfl⟩) gK_ok hK hW hS hA rfl hl.1 rfl (Nat.le_of_ble_eq_true rfl) dX2_compare_133 ⟨Nat.le_of_ble_eq_true rfl, Nat.le_of_ble_eq_true rfl⟩ rfl rfl (fun w_133 H locs hp_133 hW hz hS => ?_)
                    subst w_133
                    have hXw := hC.kSW (Y := r_lp 240 ((rs r_37).1) (lf (rs r_37).2) ((rs r_37).2.length) Xs) hXw
                    have hXs : rowAt (rowSet (rowSet w wk wkI cI 240 (r_lp 240 ((rs r_29).1) (lf (rs r_29).2) ((rs r_29).2.length) Xw)) sw swI cI 240 (r_lp 240 ((rs r_37).1) (lf (rs r_37).2) ((rs r_37).2.length) Xs)) sw swI cI 240 (r_lp 240 ((rs r_37).1) (lf (rs r_37).2) ((rs r_37).2.length) Xs) := rowSet_at hXs.ne r_lp_le (by omega)
                    have hC := hC.second (r_lp 240 ((rs r_37).1) (lf (rs r_37).2) ((rs r_37).2.length) Xs) hXs.2.2.1
                    have hXc_133 := hXs.2.2.1
                    have hx_r_29 : u_pl (rs r_29).1 (rs r_29).2 = rl (r_lp 240 ((rs r_29).1) (lf (rs r_29).2) ((rs r_29).2.length) Xw) := (rl_lp (by omega) (by omega)).symm
                    have hx_r_37 : u_pl (rs r_37).1 (rs r_37).2 = rl (r_lp 240 ((rs r_37).1) (lf (rs r_37).2) ((rs r_37).2.length) Xs) := (rl_lp (by omega) (by omega)).symm
                    refine lv_aload_n hx hb dX2_compare_136 rfl (lv_at hl 2 rfl) ?_
                    refine lv_aload_n hx hb dX2_compare_137 rfl (lv_at hl 2 rfl) ?_
                    refine wd_get (ci := 2) (v := .ref wk) (C := RX2) (T := TX2) (N := 8) hx hb hts (by decide +kernel) hown hK.1 hW hC.1 rfl 4 (by decide) (hts (.fieldLink RX2 31 "CharRows" "work" "LCharRows$Row;") (by decide +kernel)) (fun _ h9 => h9) rfl dX2_compare_138 ?_
                    refine lv_aload_n hx hb dX2_compare_141 rfl (lv_at hl 2 rfl) ?_
                    refine wd_get (ci := 2) (v := .ref sw) (C := RX2) (T := TX2) (N := 8) hx hb hts (by decide +kernel) hown hK.1 hW hC.1 rfl 5 (by decide) (hts (.fieldLink RX2 34 "CharRows" "secondWork" "LCharRows$Row;") (by decide +kernel)) (fun _ h9 => h9) rfl dX2_compare_142 ?_
                    refine wd_callSi (As := [.ref wk, .ref sw]) (rest := [.ref o]) (c2 := 0) (s2 := 0) ⟨hx, hb, hml, hown, hts⟩ (k_X2_order l D cI cT (rowSet (rowSet w wk wkI cI 240 (r_lp 240 ((rs r_29).1) (lf (rs r_29).2) ((rs r_29).2.length) Xw)) sw swI cI 240 (r_lp 240 ((rs r_37).1) (lf (rs r_37).2) ((rs r_37).2.length) Xs)) H.size wk wkI 240 (r_lp 240 ((rs r_29).1) (lf (rs r_29).2) ((rs r_29).2.length) Xw) sw swI 240 (r_lp 240 ((rs r_37).1) (lf (rs r_37).2) ((rs r_37).2.length) Xs) hXw hXs) (va_cwS 2 hts gX2_compare_X2_order rfl rfl rfl (by decide +kernel) ⟨Nat.le_of_ble_eq_true rfl, Nat.le_of_ble_eq_true rfl⟩) gK_ok hK hW hS hA rfl hl.1 rfl (Nat.le_of_ble_eq_true rfl) dX2_compare_145 ⟨Nat.le_of_ble_eq_true rfl, Nat.le_of_ble_eq_true rfl⟩ rfl rfl (fun r_145 w_145 H locs hp_145 hW hz hS => ?_)
                    obtain ⟨q_r, q_w⟩ := hp_145
                    subst r_145
                    subst w_145
                    refine wd_callVi (As := [.int (j_ord (r_lp 240 ((rs r_29).1) (lf (rs r_29).2) ((rs r_29).2.length) Xw) 240 (r_lp 240 ((rs r_37).1) (lf (rs r_37).2) ((rs r_37).2.length) Xs) 240)]) (rest := []) (c2 := 0) (s2 := 0) ⟨hx, hb, hml, hown, hts⟩ (k_X2_done l D cI cT (rowSet (rowSet w wk wkI cI 240 (r_lp 240 ((rs r_29).1) (lf (rs r_29).2) ((rs r_29).2.length) Xw)) sw swI cI 240 (r_lp 240 ((rs r_37).1) (lf (rs r_37).2) ((rs r_37).2.length) Xs)) H.size o tA kA (nI kp.length) dr wk sw cd pl (j_ord (r_lp 240 ((rs r_29).1) (lf (rs r_29).2) ((rs r_29).2.length) Xw) 240 (r_lp 240 ((rs r_37).1) (lf (rs r_37).2) ((rs r_37).2.length) Xs) 240) hC.1) (cwV 1 hts gX2_compare_X2_done rfl rfl rfl (by decide +kernel) ⟨Nat.le_of_ble_eq_true rfl, Nat.le_of_ble_eq_true rfl⟩) gK_ok hK hW (wd_recv (ci := 2) hK.1 hW rfl hC.1) hS hA rfl hl.1 rfl (Nat.le_of_ble_eq_true rfl) dX2_compare_148 ⟨Nat.le_of_ble_eq_true rfl, Nat.le_of_ble_eq_true rfl⟩ rfl rfl (fun r_148 w_148 H locs hp_148 hW hz hS => ?_)
                    obtain ⟨q_r, q_w⟩ := hp_148
                    subst r_148
                    subst w_148
                    have hC := hC.obj 0 pl
                    refine wd_iret hx hb hr hlocks hW hS dX2_compare_151 ?_
                    have e9 : s_compare (cd, pl, df, tx, kp, rs) (nI aN) (nI bN) way = (j_ord (r_lp 240 ((rs r_29).1) (lf (rs r_29).2) ((rs r_29).2.length) Xw) 240 (r_lp 240 ((rs r_37).1) (lf (rs r_37).2) ((rs r_37).2.length) Xs) 240, 0, pl, df, tx, kp, rs) := by simp only [s_compare, if_neg (not_or.mpr ⟨c_4, (not_or.mpr ⟨c_11, c_18⟩)⟩), s_w2, s_no, s_yes, if_neg (show ¬ ¬ ((rs r_29).1 = 2 ↔ (rs r_37).1 = 2) from not_not_intro ⟨fun q => absurd q c_62, fun q => absurd q c_76⟩), if_neg c_94, hcl_a, hcl_b, htx_29, htx_37]; rw [hx_r_29, hx_r_37, j_ord_eq (by omega) (by omega)]
                    show _ = (s_compare (cd, pl, df, tx, kp, rs) (nI aN) (nI bN) way).1 ∧ InvC cI cT o (s_compare (cd, pl, df, tx, kp, rs) (nI aN) (nI bN) way).2 _
                    rw [e9]
                    exact ⟨rfl, tA, kA, dr, drI, wk, wkI, sw, swI, aT, aI, Xd, hC⟩
                  ·
                    refine lv_aload hx hb dX2_compare_97 (lv_at hl 1 rfl) ?_
                    refine lv_aload_n hx hb dX2_compare_99 rfl (lv_at hl 2 rfl) ?_
                    refine wd_get (ci := 2) (v := .ref wk) (C := RX2) (T := TX2) (N := 8) hx hb hts (by decide +kernel) hown hK.1 hW hC.1 rfl 4 (by decide) (hts (.fieldLink RX2 31 "CharRows" "work" "LCharRows$Row;") (by decide +kernel)) (fun _ h9 => h9) rfl dX2_compare_100 ?_
                    refine wd_callSv (As := [.ref (aT r_29), .ref wk]) (rest := []) (c2 := 0) (s2 := 0) ⟨hx, hb, hml, hown, hts⟩ (k_X2_listUnits l D cI cT w H.size (aT r_29) (aI r_29) ((rs r_29).1) ((rs r_29).2.length) (lf (rs r_29).2) wk wkI 240 Xw (⟨(hC.2.2.2.2.2.2.2.1 r_29 hl_29).1, (hC.2.2.2.2.2.2.2.1 r_29 hl_29).2.1, by omega⟩) hXw ((hC.2.2.2.2.2.2.2.1 r_29 hl_29).2.2.2.1)) (va_cwS 2 hts gX2_compare_X2_listUnits rfl rfl rfl (by decide +kernel) ⟨Nat.le_of_ble_eq_true rfl, Nat.le_of_ble_eq_true rfl⟩) gK_ok hK hW hS hA rfl hl.1 rfl (Nat.le_of_ble_eq_true rfl) dX2_compare_103 ⟨Nat.le_of_ble_eq_true rfl, Nat.le_of_ble_eq_true rfl⟩ rfl rfl (fun w_103 H locs hp_103 hW hz hS => ?_)
                    subst w_103
                    have hXs := hC.kWS (Y := r_lu 240 ((rs r_29).1) (lf (rs r_29).2) ((rs r_29).2.length) Xw) hXs
                    have hXw : rowAt (rowSet w wk wkI cI 240 (r_lu 240 ((rs r_29).1) (lf (rs r_29).2) ((rs r_29).2.length) Xw)) wk wkI cI 240 (r_lu 240 ((rs r_29).1) (lf (rs r_29).2) ((rs r_29).2.length) Xw) := rowSet_at hXw.ne r_lu_le (by omega)
                    have hC := hC.work (r_lu 240 ((rs r_29).1) (lf (rs r_29).2) ((rs r_29).2.length) Xw) hXw.2.2.1
                    have hXc_103 := hXw.2.2.1
                    refine lv_aload hx hb dX2_compare_106 (lv_at hl 0 rfl) ?_
                    refine lv_aload_n hx hb dX2_compare_108 rfl (lv_at hl 2 rfl) ?_
                    refine wd_get (ci := 2) (v := .ref sw) (C := RX2) (T := TX2) (N := 8) hx hb hts (by decide +kernel) hown hK.1 hW hC.1 rfl 5 (by decide) (hts (.fieldLink RX2 34 "CharRows" "secondWork" "LCharRows$Row;") (by decide +kernel)) (fun _ h9 => h9) rfl dX2_compare_109 ?_
                    refine wd_callSv (As := [.ref (aT r_37), .ref sw]) (rest := []) (c2 := 0) (s2 := 0) ⟨hx, hb, hml, hown, hts⟩ (k_X2_listUnits l D cI cT (rowSet w wk wkI cI 240 (r_lu 240 ((rs r_29).1) (lf (rs r_29).2) ((rs r_29).2.length) Xw)) H.size (aT r_37) (aI r_37) ((rs r_37).1) ((rs r_37).2.length) (lf (rs r_37).2) sw swI 240 Xs (⟨(hC.2.2.2.2.2.2.2.1 r_37 hl_37).1, (hC.2.2.2.2.2.2.2.1 r_37 hl_37).2.1, by omega⟩) hXs ((hC.2.2.2.2.2.2.2.1 r_37 hl_37).2.2.2.2)) (va_cwS 2 hts gX2_compare_X2_listUnits rfl rfl rfl (by decide +kernel) ⟨Nat.le_of_ble_eq_true rfl, Nat.le_of_ble_eq_true rfl⟩) gK_ok hK hW hS hA rfl hl.1 rfl (Nat.le_of_ble_eq_true rfl) dX2_compare_112 ⟨Nat.le_of_ble_eq_true rfl, Nat.le_of_ble_eq_true rfl⟩ rfl rfl (fun w_112 H locs hp_112 hW hz hS => ?_)
                    subst w_112
                    have hXw := hC.kSW (Y := r_lu 240 ((rs r_37).1) (lf (rs r_37).2) ((rs r_37).2.length) Xs) hXw
                    have hXs : rowAt (rowSet (rowSet w wk wkI cI 240 (r_lu 240 ((rs r_29).1) (lf (rs r_29).2) ((rs r_29).2.length) Xw)) sw swI cI 240 (r_lu 240 ((rs r_37).1) (lf (rs r_37).2) ((rs r_37).2.length) Xs)) sw swI cI 240 (r_lu 240 ((rs r_37).1) (lf (rs r_37).2) ((rs r_37).2.length) Xs) := rowSet_at hXs.ne r_lu_le (by omega)
                    have hC := hC.second (r_lu 240 ((rs r_37).1) (lf (rs r_37).2) ((rs r_37).2.length) Xs) hXs.2.2.1
                    have hXc_112 := hXs.2.2.1
                    refine lv_goto (tgt := 136) hx hb dX2_compare_115 (by decide) ?_
                    have hx_r_29 : u_ul (rs r_29).1 (rs r_29).2 = rl (r_lu 240 ((rs r_29).1) (lf (rs r_29).2) ((rs r_29).2.length) Xw) := (rl_lu (by omega) (fun h1 => by have := hok_29.len2 (by rw [h1]; decide); omega)).symm
                    have hx_r_37 : u_ul (rs r_37).1 (rs r_37).2 = rl (r_lu 240 ((rs r_37).1) (lf (rs r_37).2) ((rs r_37).2.length) Xs) := (rl_lu (by omega) (fun h1 => by have := hok_37.len2 (by rw [h1]; decide); omega)).symm
                    refine lv_aload_n hx hb dX2_compare_136 rfl (lv_at hl 2 rfl) ?_
                    refine lv_aload_n hx hb dX2_compare_137 rfl (lv_at hl 2 rfl) ?_
                    refine wd_get (ci := 2) (v := .ref wk) (C := RX2) (T := TX2) (N := 8) hx hb hts (by decide +kernel) hown hK.1 hW hC.1 rfl 4 (by decide) (hts (.fieldLink RX2 31 "CharRows" "work" "LCharRows$Row;") (by decide +kernel)) (fun _ h9 => h9) rfl dX2_compare_138 ?_
                    refine lv_aload_n hx hb dX2_compare_141 rfl (lv_at hl 2 rfl) ?_
                    refine wd_get (ci := 2) (v := .ref sw) (C := RX2) (T := TX2) (N := 8) hx hb hts (by decide +kernel) hown hK.1 hW hC.1 rfl 5 (by decide) (hts (.fieldLink RX2 34 "CharRows" "secondWork" "LCharRows$Row;") (by decide +kernel)) (fun _ h9 => h9) rfl dX2_compare_142 ?_
                    refine wd_callSi (As := [.ref wk, .ref sw]) (rest := [.ref o]) (c2 := 0) (s2 := 0) ⟨hx, hb, hml, hown, hts⟩ (k_X2_order l D cI cT (rowSet (rowSet w wk wkI cI 240 (r_lu 240 ((rs r_29).1) (lf (rs r_29).2) ((rs r_29).2.length) Xw)) sw swI cI 240 (r_lu 240 ((rs r_37).1) (lf (rs r_37).2) ((rs r_37).2.length) Xs)) H.size wk wkI 240 (r_lu 240 ((rs r_29).1) (lf (rs r_29).2) ((rs r_29).2.length) Xw) sw swI 240 (r_lu 240 ((rs r_37).1) (lf (rs r_37).2) ((rs r_37).2.length) Xs) hXw hXs) (va_cwS 2 hts gX2_compare_X2_order rfl rfl rfl (by decide +kernel) ⟨Nat.le_of_ble_eq_true rfl, Nat.le_of_ble_eq_true rfl⟩) gK_ok hK hW hS hA rfl hl.1 rfl (Nat.le_of_ble_eq_true rfl) dX2_compare_145 ⟨Nat.le_of_ble_eq_true rfl, Nat.le_of_ble_eq_true rfl⟩ rfl rfl (fun r_145 w_145 H locs hp_145 hW hz hS => ?_)
                    obtain ⟨q_r, q_w⟩ := hp_145
                    subst r_145
                    subst w_145
                    refine wd_callVi (As := [.int (j_ord (r_lu 240 ((rs r_29).1) (lf (rs r_29).2) ((rs r_29).2.length) Xw) 240 (r_lu 240 ((rs r_37).1) (lf (rs r_37).2) ((rs r_37).2.length) Xs) 240)]) (rest := []) (c2 := 0) (s2 := 0) ⟨hx, hb, hml, hown, hts⟩ (k_X2_done l D cI cT (rowSet (rowSet w wk wkI cI 240 (r_lu 240 ((rs r_29).1) (lf (rs r_29).2) ((rs r_29).2.length) Xw)) sw swI cI 240 (r_lu 240 ((rs r_37).1) (lf (rs r_37).2) ((rs r_37).2.length) Xs)) H.size o tA kA (nI kp.length) dr wk sw cd pl (j_ord (r_lu 240 ((rs r_29).1) (lf (rs r_29).2) ((rs r_29).2.length) Xw) 240 (r_lu 240 ((rs r_37).1) (lf (rs r_37).2) ((rs r_37).2.length) Xs) 240) hC.1) (cwV 1 hts gX2_compare_X2_done rfl rfl rfl (by decide +kernel) ⟨Nat.le_of_ble_eq_true rfl, Nat.le_of_ble_eq_true rfl⟩) gK_ok hK hW (wd_recv (ci := 2) hK.1 hW rfl hC.1) hS hA rfl hl.1 rfl (Nat.le_of_ble_eq_true rfl) dX2_compare_148 ⟨Nat.le_of_ble_eq_true rfl, Nat.le_of_ble_eq_true rfl⟩ rfl rfl (fun r_148 w_148 H locs hp_148 hW hz hS => ?_)
                    obtain ⟨q_r, q_w⟩ := hp_148
                    subst r_148
                    subst w_148
                    have hC := hC.obj 0 pl
                    refine wd_iret hx hb hr hlocks hW hS dX2_compare_151 ?_
                    have e9 : s_compare (cd, pl, df, tx, kp, rs) (nI aN) (nI bN) way = (j_ord (r_lu 240 ((rs r_29).1) (lf (rs r_29).2) ((rs r_29).2.length) Xw) 240 (r_lu 240 ((rs r_37).1) (lf (rs r_37).2) ((rs r_37).2.length) Xs) 240, 0, pl, df, tx, kp, rs) := by simp only [s_compare, if_neg (not_or.mpr ⟨c_4, (not_or.mpr ⟨c_11, c_18⟩)⟩), s_w2, s_no, s_yes, if_neg (show ¬ ¬ ((rs r_29).1 = 2 ↔ (rs r_37).1 = 2) from not_not_intro ⟨fun q => absurd q c_62, fun q => absurd q c_76⟩), if_pos c_94, hcl_a, hcl_b, htx_29, htx_37]; rw [hx_r_29, hx_r_37, j_ord_eq (by omega) (by omega)]
                    show _ = (s_compare (cd, pl, df, tx, kp, rs) (nI aN) (nI bN) way).1 ∧ InvC cI cT o (s_compare (cd, pl, df, tx, kp, rs) (nI aN) (nI bN) way).2 _
                    rw [e9]
                    exact ⟨rfl, tA, kA, dr, drI, wk, wkI, sw, swI, aT, aI, Xd, hC⟩
                ·
                  exact absurd rfl c_84
              ·
                refine lv_iconst (v := 1) hx hb dX2_compare_79 (by decide) ?_
                refine lv_goto (tgt := 84) hx hb dX2_compare_80 (by decide) ?_
                refine lv_icmp_eq (tgt := 93) hx hb dX2_compare_84 (by decide) (fun c_84 => ?_) (fun c_84 => ?_)
                ·
                  exact absurd c_84 (by decide)
                ·
                  refine lv_aload_n hx hb dX2_compare_87 rfl (lv_at hl 2 rfl) ?_
                  refine lv_iconst (v := 2) hx hb dX2_compare_88 (by decide) ?_
                  refine wd_callVi (As := [.int 2]) (rest := []) (c2 := 0) (s2 := 0) ⟨hx, hb, hml, hown, hts⟩ (k_X2_refuse l D cI cT w H.size o tA kA (nI kp.length) dr wk sw cd pl 2 hC.1) (cwV 1 hts gX2_compare_X2_refuse rfl rfl rfl (by decide +kernel) ⟨Nat.le_of_ble_eq_true rfl, Nat.le_of_ble_eq_true rfl⟩) gK_ok hK hW (wd_recv (ci := 2) hK.1 hW rfl hC.1) hS hA rfl hl.1 rfl (Nat.le_of_ble_eq_true rfl) dX2_compare_89 ⟨Nat.le_of_ble_eq_true rfl, Nat.le_of_ble_eq_true rfl⟩ rfl rfl (fun r_89 w_89 H locs hp_89 hW hz hS => ?_)
                  obtain ⟨q_r, q_w⟩ := hp_89
                  subst r_89
                  subst w_89
                  have hC := hC.obj 2 pl
                  refine wd_iret hx hb hr hlocks hW hS dX2_compare_92 ?_
                  have e9 : s_compare (cd, pl, df, tx, kp, rs) (nI aN) (nI bN) way = (0, 2, pl, df, tx, kp, rs) := by simp only [s_compare, if_neg (not_or.mpr ⟨c_4, (not_or.mpr ⟨c_11, c_18⟩)⟩), s_w2, s_no, s_yes, if_pos (show ¬ ((rs r_29).1 = 2 ↔ (rs r_37).1 = 2) from fun q => c_62 (q.mpr c_76)), hcl_a, hcl_b, htx_29, htx_37]
                  show _ = (s_compare (cd, pl, df, tx, kp, rs) (nI aN) (nI bN) way).1 ∧ InvC cI cT o (s_compare (cd, pl, df, tx, kp, rs) (nI aN) (nI bN) way).2 _
                  rw [e9]
                  exact ⟨rfl, tA, kA, dr, drI, wk, wkI, sw, swI, aT, aI, Xd, hC⟩
            ·
              refine lv_iconst (v := 1) hx hb dX2_compare_65 (by decide) ?_
              refine lv_goto (tgt := 70) hx hb dX2_compare_66 (by decide) ?_
              refine lv_aload hx hb dX2_compare_70 (lv_at hl 0 rfl) ?_
              refine wd_get (ci := 1) (v := .int ((rs r_37).1)) (C := RX1) (T := TX1) (N := 2) hx hb hts (by decide +kernel) hown hK.1 hW (hC.2.2.2.2.2.2.2.1 r_37 hl_37).1 rfl 0 (by decide) (hts (.fieldLink RX2 94 "CharRows$Text" "kindOfItems" "I") (by decide +kernel)) (fun _ h9 => h9) rfl dX2_compare_72 ?_
              refine lv_iconst (v := 2) hx hb dX2_compare_75 (by decide) ?_
              refine lv_icmp_ne (tgt := 83) hx hb dX2_compare_76 (by decide) (fun c_76 => ?_) (fun c_76 => ?_)
              ·
                refine lv_iconst (v := 0) hx hb dX2_compare_83 (by decide) ?_
                refine lv_icmp_eq (tgt := 93) hx hb dX2_compare_84 (by decide) (fun c_84 => ?_) (fun c_84 => ?_)
                ·
                  exact absurd c_84 (by decide)
                ·
                  refine lv_aload_n hx hb dX2_compare_87 rfl (lv_at hl 2 rfl) ?_
                  refine lv_iconst (v := 2) hx hb dX2_compare_88 (by decide) ?_
                  refine wd_callVi (As := [.int 2]) (rest := []) (c2 := 0) (s2 := 0) ⟨hx, hb, hml, hown, hts⟩ (k_X2_refuse l D cI cT w H.size o tA kA (nI kp.length) dr wk sw cd pl 2 hC.1) (cwV 1 hts gX2_compare_X2_refuse rfl rfl rfl (by decide +kernel) ⟨Nat.le_of_ble_eq_true rfl, Nat.le_of_ble_eq_true rfl⟩) gK_ok hK hW (wd_recv (ci := 2) hK.1 hW rfl hC.1) hS hA rfl hl.1 rfl (Nat.le_of_ble_eq_true rfl) dX2_compare_89 ⟨Nat.le_of_ble_eq_true rfl, Nat.le_of_ble_eq_true rfl⟩ rfl rfl (fun r_89 w_89 H locs hp_89 hW hz hS => ?_)
                  obtain ⟨q_r, q_w⟩ := hp_89
                  subst r_89
                  subst w_89
                  have hC := hC.obj 2 pl
                  refine wd_iret hx hb hr hlocks hW hS dX2_compare_92 ?_
                  have e9 : s_compare (cd, pl, df, tx, kp, rs) (nI aN) (nI bN) way = (0, 2, pl, df, tx, kp, rs) := by simp only [s_compare, if_neg (not_or.mpr ⟨c_4, (not_or.mpr ⟨c_11, c_18⟩)⟩), s_w2, s_no, s_yes, if_pos (show ¬ ((rs r_29).1 = 2 ↔ (rs r_37).1 = 2) from fun q => c_76 (q.mp c_62)), hcl_a, hcl_b, htx_29, htx_37]
                  show _ = (s_compare (cd, pl, df, tx, kp, rs) (nI aN) (nI bN) way).1 ∧ InvC cI cT o (s_compare (cd, pl, df, tx, kp, rs) (nI aN) (nI bN) way).2 _
                  rw [e9]
                  exact ⟨rfl, tA, kA, dr, drI, wk, wkI, sw, swI, aT, aI, Xd, hC⟩
              ·
                refine lv_iconst (v := 1) hx hb dX2_compare_79 (by decide) ?_
                refine lv_goto (tgt := 84) hx hb dX2_compare_80 (by decide) ?_
                refine lv_icmp_eq (tgt := 93) hx hb dX2_compare_84 (by decide) (fun c_84 => ?_) (fun c_84 => ?_)
                ·
                  refine lv_iload_n hx hb dX2_compare_93 rfl (lv_at hl 5 rfl) ?_
                  refine lv_if_ne (tgt := 118) hx hb dX2_compare_94 (by decide) (fun c_94 => ?_) (fun c_94 => ?_)
                  ·
                    refine lv_aload hx hb dX2_compare_118 (lv_at hl 1 rfl) ?_
                    refine lv_aload_n hx hb dX2_compare_120 rfl (lv_at hl 2 rfl) ?_
                    refine wd_get (ci := 2) (v := .ref wk) (C := RX2) (T := TX2) (N := 8) hx hb hts (by decide +kernel) hown hK.1 hW hC.1 rfl 4 (by decide) (hts (.fieldLink RX2 31 "CharRows" "work" "LCharRows$Row;") (by decide +kernel)) (fun _ h9 => h9) rfl dX2_compare_121 ?_
                    refine wd_callSv (As := [.ref (aT r_29), .ref wk]) (rest := []) (c2 := 0) (s2 := 0) ⟨hx, hb, hml, hown, hts⟩ (k_X2_listPoints l D cI cT w H.size (aT r_29) (aI r_29) ((rs r_29).1) ((rs r_29).2.length) (lf (rs r_29).2) wk wkI 240 Xw (⟨(hC.2.2.2.2.2.2.2.1 r_29 hl_29).1, (hC.2.2.2.2.2.2.2.1 r_29 hl_29).2.1, by omega⟩) hXw ((hC.2.2.2.2.2.2.2.1 r_29 hl_29).2.2.2.1)) (va_cwS 2 hts gX2_compare_X2_listPoints rfl rfl rfl (by decide +kernel) ⟨Nat.le_of_ble_eq_true rfl, Nat.le_of_ble_eq_true rfl⟩) gK_ok hK hW hS hA rfl hl.1 rfl (Nat.le_of_ble_eq_true rfl) dX2_compare_124 ⟨Nat.le_of_ble_eq_true rfl, Nat.le_of_ble_eq_true rfl⟩ rfl rfl (fun w_124 H locs hp_124 hW hz hS => ?_)
                    subst w_124
                    have hXs := hC.kWS (Y := r_lp 240 ((rs r_29).1) (lf (rs r_29).2) ((rs r_29).2.length) Xw) hXs
                    have hXw : rowAt (rowSet w wk wkI cI 240 (r_lp 240 ((rs r_29).1) (lf (rs r_29).2) ((rs r_29).2.length) Xw)) wk wkI cI 240 (r_lp 240 ((rs r_29).1) (lf (rs r_29).2) ((rs r_29).2.length) Xw) := rowSet_at hXw.ne r_lp_le (by omega)
                    have hC := hC.work (r_lp 240 ((rs r_29).1) (lf (rs r_29).2) ((rs r_29).2.length) Xw) hXw.2.2.1
                    have hXc_124 := hXw.2.2.1
                    refine lv_aload hx hb dX2_compare_127 (lv_at hl 0 rfl) ?_
                    refine lv_aload_n hx hb dX2_compare_129 rfl (lv_at hl 2 rfl) ?_
                    refine wd_get (ci := 2) (v := .ref sw) (C := RX2) (T := TX2) (N := 8) hx hb hts (by decide +kernel) hown hK.1 hW hC.1 rfl 5 (by decide) (hts (.fieldLink RX2 34 "CharRows" "secondWork" "LCharRows$Row;") (by decide +kernel)) (fun _ h9 => h9) rfl dX2_compare_130 ?_
                    refine wd_callSv (As := [.ref (aT r_37), .ref sw]) (rest := []) (c2 := 0) (s2 := 0) ⟨hx, hb, hml, hown, hts⟩ (k_X2_listPoints l D cI cT (rowSet w wk wkI cI 240 (r_lp 240 ((rs r_29).1) (lf (rs r_29).2) ((rs r_29).2.length) Xw)) H.size (aT r_37) (aI r_37) ((rs r_37).1) ((rs r_37).2.length) (lf (rs r_37).2) sw swI 240 Xs (⟨(hC.2.2.2.2.2.2.2.1 r_37 hl_37).1, (hC.2.2.2.2.2.2.2.1 r_37 hl_37).2.1, by omega⟩) hXs ((hC.2.2.2.2.2.2.2.1 r_37 hl_37).2.2.2.2)) (va_cwS 2 hts gX2_compare_X2_listPoints rfl rfl rfl (by decide +kernel) ⟨Nat.le_of_ble_eq_true rfl, Nat.le_of_ble_eq_true rfl⟩) gK_ok hK hW hS hA rfl hl.1 rfl (Nat.le_of_ble_eq_true rfl) dX2_compare_133 ⟨Nat.le_of_ble_eq_true rfl, Nat.le_of_ble_eq_true rfl⟩ rfl rfl (fun w_133 H locs hp_133 hW hz hS => ?_)
                    subst w_133
                    have hXw := hC.kSW (Y := r_lp 240 ((rs r_37).1) (lf (rs r_37).2) ((rs r_37).2.length) Xs) hXw
                    have hXs : rowAt (rowSet (rowSet w wk wkI cI 240 (r_lp 240 ((rs r_29).1) (lf (rs r_29).2) ((rs r_29).2.length) Xw)) sw swI cI 240 (r_lp 240 ((rs r_37).1) (lf (rs r_37).2) ((rs r_37).2.length) Xs)) sw swI cI 240 (r_lp 240 ((rs r_37).1) (lf (rs r_37).2) ((rs r_37).2.length) Xs) := rowSet_at hXs.ne r_lp_le (by omega)
                    have hC := hC.second (r_lp 240 ((rs r_37).1) (lf (rs r_37).2) ((rs r_37).2.length) Xs) hXs.2.2.1
                    have hXc_133 := hXs.2.2.1
                    have hx_r_29 : u_pl (rs r_29).1 (rs r_29).2 = rl (r_lp 240 ((rs r_29).1) (lf (rs r_29).2) ((rs r_29).2.length) Xw) := (rl_lp (by omega) (by omega)).symm
                    have hx_r_37 : u_pl (rs r_37).1 (rs r_37).2 = rl (r_lp 240 ((rs r_37).1) (lf (rs r_37).2) ((rs r_37).2.length) Xs) := (rl_lp (by omega) (by omega)).symm
                    refine lv_aload_n hx hb dX2_compare_136 rfl (lv_at hl 2 rfl) ?_
                    refine lv_aload_n hx hb dX2_compare_137 rfl (lv_at hl 2 rfl) ?_
                    refine wd_get (ci := 2) (v := .ref wk) (C := RX2) (T := TX2) (N := 8) hx hb hts (by decide +kernel) hown hK.1 hW hC.1 rfl 4 (by decide) (hts (.fieldLink RX2 31 "CharRows" "work" "LCharRows$Row;") (by decide +kernel)) (fun _ h9 => h9) rfl dX2_compare_138 ?_
                    refine lv_aload_n hx hb dX2_compare_141 rfl (lv_at hl 2 rfl) ?_
                    refine wd_get (ci := 2) (v := .ref sw) (C := RX2) (T := TX2) (N := 8) hx hb hts (by decide +kernel) hown hK.1 hW hC.1 rfl 5 (by decide) (hts (.fieldLink RX2 34 "CharRows" "secondWork" "LCharRows$Row;") (by decide +kernel)) (fun _ h9 => h9) rfl dX2_compare_142 ?_
                    refine wd_callSi (As := [.ref wk, .ref sw]) (rest := [.ref o]) (c2 := 0) (s2 := 0) ⟨hx, hb, hml, hown, hts⟩ (k_X2_order l D cI cT (rowSet (rowSet w wk wkI cI 240 (r_lp 240 ((rs r_29).1) (lf (rs r_29).2) ((rs r_29).2.length) Xw)) sw swI cI 240 (r_lp 240 ((rs r_37).1) (lf (rs r_37).2) ((rs r_37).2.length) Xs)) H.size wk wkI 240 (r_lp 240 ((rs r_29).1) (lf (rs r_29).2) ((rs r_29).2.length) Xw) sw swI 240 (r_lp 240 ((rs r_37).1) (lf (rs r_37).2) ((rs r_37).2.length) Xs) hXw hXs) (va_cwS 2 hts gX2_compare_X2_order rfl rfl rfl (by decide +kernel) ⟨Nat.le_of_ble_eq_true rfl, Nat.le_of_ble_eq_true rfl⟩) gK_ok hK hW hS hA rfl hl.1 rfl (Nat.le_of_ble_eq_true rfl) dX2_compare_145 ⟨Nat.le_of_ble_eq_true rfl, Nat.le_of_ble_eq_true rfl⟩ rfl rfl (fun r_145 w_145 H locs hp_145 hW hz hS => ?_)
                    obtain ⟨q_r, q_w⟩ := hp_145
                    subst r_145
                    subst w_145
                    refine wd_callVi (As := [.int (j_ord (r_lp 240 ((rs r_29).1) (lf (rs r_29).2) ((rs r_29).2.length) Xw) 240 (r_lp 240 ((rs r_37).1) (lf (rs r_37).2) ((rs r_37).2.length) Xs) 240)]) (rest := []) (c2 := 0) (s2 := 0) ⟨hx, hb, hml, hown, hts⟩ (k_X2_done l D cI cT (rowSet (rowSet w wk wkI cI 240 (r_lp 240 ((rs r_29).1) (lf (rs r_29).2) ((rs r_29).2.length) Xw)) sw swI cI 240 (r_lp 240 ((rs r_37).1) (lf (rs r_37).2) ((rs r_37).2.length) Xs)) H.size o tA kA (nI kp.length) dr wk sw cd pl (j_ord (r_lp 240 ((rs r_29).1) (lf (rs r_29).2) ((rs r_29).2.length) Xw) 240 (r_lp 240 ((rs r_37).1) (lf (rs r_37).2) ((rs r_37).2.length) Xs) 240) hC.1) (cwV 1 hts gX2_compare_X2_done rfl rfl rfl (by decide +kernel) ⟨Nat.le_of_ble_eq_true rfl, Nat.le_of_ble_eq_true rfl⟩) gK_ok hK hW (wd_recv (ci := 2) hK.1 hW rfl hC.1) hS hA rfl hl.1 rfl (Nat.le_of_ble_eq_true rfl) dX2_compare_148 ⟨Nat.le_of_ble_eq_true rfl, Nat.le_of_ble_eq_true rfl⟩ rfl rfl (fun r_148 w_148 H locs hp_148 hW hz hS => ?_)
                    obtain ⟨q_r, q_w⟩ := hp_148
                    subst r_148
                    subst w_148
                    have hC := hC.obj 0 pl
                    refine wd_iret hx hb hr hlocks hW hS dX2_compare_151 ?_
                    have e9 : s_compare (cd, pl, df, tx, kp, rs) (nI aN) (nI bN) way = (j_ord (r_lp 240 ((rs r_29).1) (lf (rs r_29).2) ((rs r_29).2.length) Xw) 240 (r_lp 240 ((rs r_37).1) (lf (rs r_37).2) ((rs r_37).2.length) Xs) 240, 0, pl, df, tx, kp, rs) := by simp only [s_compare, if_neg (not_or.mpr ⟨c_4, (not_or.mpr ⟨c_11, c_18⟩)⟩), s_w2, s_no, s_yes, if_neg (show ¬ ¬ ((rs r_29).1 = 2 ↔ (rs r_37).1 = 2) from not_not_intro ⟨fun _ => c_76, fun _ => c_62⟩), if_neg c_94, hcl_a, hcl_b, htx_29, htx_37]; rw [hx_r_29, hx_r_37, j_ord_eq (by omega) (by omega)]
                    show _ = (s_compare (cd, pl, df, tx, kp, rs) (nI aN) (nI bN) way).1 ∧ InvC cI cT o (s_compare (cd, pl, df, tx, kp, rs) (nI aN) (nI bN) way).2 _
                    rw [e9]
                    exact ⟨rfl, tA, kA, dr, drI, wk, wkI, sw, swI, aT, aI, Xd, hC⟩
                  ·
                    refine lv_aload hx hb dX2_compare_97 (lv_at hl 1 rfl) ?_
                    refine lv_aload_n hx hb dX2_compare_99 rfl (lv_at hl 2 rfl) ?_
                    refine wd_get (ci := 2) (v := .ref wk) (C := RX2) (T := TX2) (N := 8) hx hb hts (by decide +kernel) hown hK.1 hW hC.1 rfl 4 (by decide) (hts (.fieldLink RX2 31 "CharRows" "work" "LCharRows$Row;") (by decide +kernel)) (fun _ h9 => h9) rfl dX2_compare_100 ?_
                    refine wd_callSv (As := [.ref (aT r_29), .ref wk]) (rest := []) (c2 := 0) (s2 := 0) ⟨hx, hb, hml, hown, hts⟩ (k_X2_listUnits l D cI cT w H.size (aT r_29) (aI r_29) ((rs r_29).1) ((rs r_29).2.length) (lf (rs r_29).2) wk wkI 240 Xw (⟨(hC.2.2.2.2.2.2.2.1 r_29 hl_29).1, (hC.2.2.2.2.2.2.2.1 r_29 hl_29).2.1, by omega⟩) hXw ((hC.2.2.2.2.2.2.2.1 r_29 hl_29).2.2.2.1)) (va_cwS 2 hts gX2_compare_X2_listUnits rfl rfl rfl (by decide +kernel) ⟨Nat.le_of_ble_eq_true rfl, Nat.le_of_ble_eq_true rfl⟩) gK_ok hK hW hS hA rfl hl.1 rfl (Nat.le_of_ble_eq_true rfl) dX2_compare_103 ⟨Nat.le_of_ble_eq_true rfl, Nat.le_of_ble_eq_true rfl⟩ rfl rfl (fun w_103 H locs hp_103 hW hz hS => ?_)
                    subst w_103
                    have hXs := hC.kWS (Y := r_lu 240 ((rs r_29).1) (lf (rs r_29).2) ((rs r_29).2.length) Xw) hXs
                    have hXw : rowAt (rowSet w wk wkI cI 240 (r_lu 240 ((rs r_29).1) (lf (rs r_29).2) ((rs r_29).2.length) Xw)) wk wkI cI 240 (r_lu 240 ((rs r_29).1) (lf (rs r_29).2) ((rs r_29).2.length) Xw) := rowSet_at hXw.ne r_lu_le (by omega)
                    have hC := hC.work (r_lu 240 ((rs r_29).1) (lf (rs r_29).2) ((rs r_29).2.length) Xw) hXw.2.2.1
                    have hXc_103 := hXw.2.2.1
                    refine lv_aload hx hb dX2_compare_106 (lv_at hl 0 rfl) ?_
                    refine lv_aload_n hx hb dX2_compare_108 rfl (lv_at hl 2 rfl) ?_
                    refine wd_get (ci := 2) (v := .ref sw) (C := RX2) (T := TX2) (N := 8) hx hb hts (by decide +kernel) hown hK.1 hW hC.1 rfl 5 (by decide) (hts (.fieldLink RX2 34 "CharRows" "secondWork" "LCharRows$Row;") (by decide +kernel)) (fun _ h9 => h9) rfl dX2_compare_109 ?_
                    refine wd_callSv (As := [.ref (aT r_37), .ref sw]) (rest := []) (c2 := 0) (s2 := 0) ⟨hx, hb, hml, hown, hts⟩ (k_X2_listUnits l D cI cT (rowSet w wk wkI cI 240 (r_lu 240 ((rs r_29).1) (lf (rs r_29).2) ((rs r_29).2.length) Xw)) H.size (aT r_37) (aI r_37) ((rs r_37).1) ((rs r_37).2.length) (lf (rs r_37).2) sw swI 240 Xs (⟨(hC.2.2.2.2.2.2.2.1 r_37 hl_37).1, (hC.2.2.2.2.2.2.2.1 r_37 hl_37).2.1, by omega⟩) hXs ((hC.2.2.2.2.2.2.2.1 r_37 hl_37).2.2.2.2)) (va_cwS 2 hts gX2_compare_X2_listUnits rfl rfl rfl (by decide +kernel) ⟨Nat.le_of_ble_eq_true rfl, Nat.le_of_ble_eq_true rfl⟩) gK_ok hK hW hS hA rfl hl.1 rfl (Nat.le_of_ble_eq_true rfl) dX2_compare_112 ⟨Nat.le_of_ble_eq_true rfl, Nat.le_of_ble_eq_true rfl⟩ rfl rfl (fun w_112 H locs hp_112 hW hz hS => ?_)
                    subst w_112
                    have hXw := hC.kSW (Y := r_lu 240 ((rs r_37).1) (lf (rs r_37).2) ((rs r_37).2.length) Xs) hXw
                    have hXs : rowAt (rowSet (rowSet w wk wkI cI 240 (r_lu 240 ((rs r_29).1) (lf (rs r_29).2) ((rs r_29).2.length) Xw)) sw swI cI 240 (r_lu 240 ((rs r_37).1) (lf (rs r_37).2) ((rs r_37).2.length) Xs)) sw swI cI 240 (r_lu 240 ((rs r_37).1) (lf (rs r_37).2) ((rs r_37).2.length) Xs) := rowSet_at hXs.ne r_lu_le (by omega)
                    have hC := hC.second (r_lu 240 ((rs r_37).1) (lf (rs r_37).2) ((rs r_37).2.length) Xs) hXs.2.2.1
                    have hXc_112 := hXs.2.2.1
                    refine lv_goto (tgt := 136) hx hb dX2_compare_115 (by decide) ?_
                    have hx_r_29 : u_ul (rs r_29).1 (rs r_29).2 = rl (r_lu 240 ((rs r_29).1) (lf (rs r_29).2) ((rs r_29).2.length) Xw) := (rl_lu (by omega) (fun h1 => by have := hok_29.len2 (by rw [h1]; decide); omega)).symm
                    have hx_r_37 : u_ul (rs r_37).1 (rs r_37).2 = rl (r_lu 240 ((rs r_37).1) (lf (rs r_37).2) ((rs r_37).2.length) Xs) := (rl_lu (by omega) (fun h1 => by have := hok_37.len2 (by rw [h1]; decide); omega)).symm
                    refine lv_aload_n hx hb dX2_compare_136 rfl (lv_at hl 2 rfl) ?_
                    refine lv_aload_n hx hb dX2_compare_137 rfl (lv_at hl 2 rfl) ?_
                    refine wd_get (ci := 2) (v := .ref wk) (C := RX2) (T := TX2) (N := 8) hx hb hts (by decide +kernel) hown hK.1 hW hC.1 rfl 4 (by decide) (hts (.fieldLink RX2 31 "CharRows" "work" "LCharRows$Row;") (by decide +kernel)) (fun _ h9 => h9) rfl dX2_compare_138 ?_
                    refine lv_aload_n hx hb dX2_compare_141 rfl (lv_at hl 2 rfl) ?_
                    refine wd_get (ci := 2) (v := .ref sw) (C := RX2) (T := TX2) (N := 8) hx hb hts (by decide +kernel) hown hK.1 hW hC.1 rfl 5 (by decide) (hts (.fieldLink RX2 34 "CharRows" "secondWork" "LCharRows$Row;") (by decide +kernel)) (fun _ h9 => h9) rfl dX2_compare_142 ?_
                    refine wd_callSi (As := [.ref wk, .ref sw]) (rest := [.ref o]) (c2 := 0) (s2 := 0) ⟨hx, hb, hml, hown, hts⟩ (k_X2_order l D cI cT (rowSet (rowSet w wk wkI cI 240 (r_lu 240 ((rs r_29).1) (lf (rs r_29).2) ((rs r_29).2.length) Xw)) sw swI cI 240 (r_lu 240 ((rs r_37).1) (lf (rs r_37).2) ((rs r_37).2.length) Xs)) H.size wk wkI 240 (r_lu 240 ((rs r_29).1) (lf (rs r_29).2) ((rs r_29).2.length) Xw) sw swI 240 (r_lu 240 ((rs r_37).1) (lf (rs r_37).2) ((rs r_37).2.length) Xs) hXw hXs) (va_cwS 2 hts gX2_compare_X2_order rfl rfl rfl (by decide +kernel) ⟨Nat.le_of_ble_eq_true rfl, Nat.le_of_ble_eq_true rfl⟩) gK_ok hK hW hS hA rfl hl.1 rfl (Nat.le_of_ble_eq_true rfl) dX2_compare_145 ⟨Nat.le_of_ble_eq_true rfl, Nat.le_of_ble_eq_true rfl⟩ rfl rfl (fun r_145 w_145 H locs hp_145 hW hz hS => ?_)
                    obtain ⟨q_r, q_w⟩ := hp_145
                    subst r_145
                    subst w_145
                    refine wd_callVi (As := [.int (j_ord (r_lu 240 ((rs r_29).1) (lf (rs r_29).2) ((rs r_29).2.length) Xw) 240 (r_lu 240 ((rs r_37).1) (lf (rs r_37).2) ((rs r_37).2.length) Xs) 240)]) (rest := []) (c2 := 0) (s2 := 0) ⟨hx, hb, hml, hown, hts⟩ (k_X2_done l D cI cT (rowSet (rowSet w wk wkI cI 240 (r_lu 240 ((rs r_29).1) (lf (rs r_29).2) ((rs r_29).2.length) Xw)) sw swI cI 240 (r_lu 240 ((rs r_37).1) (lf (rs r_37).2) ((rs r_37).2.length) Xs)) H.size o tA kA (nI kp.length) dr wk sw cd pl (j_ord (r_lu 240 ((rs r_29).1) (lf (rs r_29).2) ((rs r_29).2.length) Xw) 240 (r_lu 240 ((rs r_37).1) (lf (rs r_37).2) ((rs r_37).2.length) Xs) 240) hC.1) (cwV 1 hts gX2_compare_X2_done rfl rfl rfl (by decide +kernel) ⟨Nat.le_of_ble_eq_true rfl, Nat.le_of_ble_eq_true rfl⟩) gK_ok hK hW (wd_recv (ci := 2) hK.1 hW rfl hC.1) hS hA rfl hl.1 rfl (Nat.le_of_ble_eq_true rfl) dX2_compare_148 ⟨Nat.le_of_ble_eq_true rfl, Nat.le_of_ble_eq_true rfl⟩ rfl rfl (fun r_148 w_148 H locs hp_148 hW hz hS => ?_)
                    obtain ⟨q_r, q_w⟩ := hp_148
                    subst r_148
                    subst w_148
                    have hC := hC.obj 0 pl
                    refine wd_iret hx hb hr hlocks hW hS dX2_compare_151 ?_
                    have e9 : s_compare (cd, pl, df, tx, kp, rs) (nI aN) (nI bN) way = (j_ord (r_lu 240 ((rs r_29).1) (lf (rs r_29).2) ((rs r_29).2.length) Xw) 240 (r_lu 240 ((rs r_37).1) (lf (rs r_37).2) ((rs r_37).2.length) Xs) 240, 0, pl, df, tx, kp, rs) := by simp only [s_compare, if_neg (not_or.mpr ⟨c_4, (not_or.mpr ⟨c_11, c_18⟩)⟩), s_w2, s_no, s_yes, if_neg (show ¬ ¬ ((rs r_29).1 = 2 ↔ (rs r_37).1 = 2) from not_not_intro ⟨fun _ => c_76, fun _ => c_62⟩), if_pos c_94, hcl_a, hcl_b, htx_29, htx_37]; rw [hx_r_29, hx_r_37, j_ord_eq (by omega) (by omega)]
                    show _ = (s_compare (cd, pl, df, tx, kp, rs) (nI aN) (nI bN) way).1 ∧ InvC cI cT o (s_compare (cd, pl, df, tx, kp, rs) (nI aN) (nI bN) way).2 _
                    rw [e9]
                    exact ⟨rfl, tA, kA, dr, drI, wk, wkI, sw, swI, aT, aI, Xd, hC⟩
                ·
                  exact absurd rfl c_84
      ·
        have c_18 := j_bn c_18
        refine lv_ldc (v := (-2000000001)) hx hb hown (hts (.constant RX2 47 (-2000000001)) (by decide +kernel)) dX2_compare_21 ?_
        refine wd_iret hx hb hr hlocks hW hS dX2_compare_23 ?_
        have e9 : s_compare (cd, pl, df, tx, kp, rs) (nI aN) (nI bN) way = ((-2000000001), cd, pl, df, tx, kp, rs) := by simp only [s_compare, if_pos (Or.inr (Or.inr c_18)), s_w2, s_no, s_yes, hcl_a, hcl_b]
        show _ = (s_compare (cd, pl, df, tx, kp, rs) (nI aN) (nI bN) way).1 ∧ InvC cI cT o (s_compare (cd, pl, df, tx, kp, rs) (nI aN) (nI bN) way).2 _
        rw [e9]
        exact ⟨rfl, tA, kA, dr, drI, wk, wkI, sw, swI, aT, aI, Xd, hC⟩
set_option maxHeartbeats 4000000 in
set_option maxRecDepth 100000 in
theorem k_X2_back (l : Launch) (D : va_G) (cI cT : ClassId) (w : Wd) (sz : Nat) (o : Nat) (cd : Int32) (pl : Int32) (df : List Int32) (tx : Nat → Option Nat) (kp : List Nat) (rs : Rws) (t : Int32) (u : Int32) (hwf : WF (cd, pl, df, tx, kp, rs)) (hI : InvC cI cT o (cd, pl, df, tx, kp, rs) w) : wd_Mi l D vwCl (gK D cI cT) yX2_back wsX2_back (wd_rm 4 2 242) [.ref o, .int t, .int u] w sz (fun r w' => r = (s_back (cd, pl, df, tx, kp, rs) t u).1 ∧ InvC cI cT o (s_back (cd, pl, df, tx, kp, rs) t u).2 w') := by
  refine wd_met (cc := cX2_back) (maxL := 5) (ret := (some .int)) (by decide) rfl (Nat.le_of_ble_eq_true rfl) ?_
  intro pg ev sg mi bl mt cde ls C0 hsz hK hW hl
  obtain ⟨hx, hb, hr, hml, hown, hts, hlocks, hnm⟩ := C0
  subst hsz
  have hown : sg.vm.findClass RX2 = some mi.cls := hown
  have hS : va_S (wd_A w sg.heap.size) sg.heap sg.heap [] := va_S.rf
  have hA : ∀ q, sg.heap.size ≤ q → wd_A w sg.heap.size q := fun q h => Or.inr h
  have hl : lv_has ls 5 [(0, .ref o), (1, .int t), (2, .int u)] := hl
  obtain ⟨tA, kA, dr, drI, wk, wkI, sw, swI, aT, aI, Xd, hC⟩ := hI
  dsimp only at hC
  obtain ⟨Xw, hXw⟩ := hC.2.2.2.2.1
  obtain ⟨Xs, hXs⟩ := hC.2.2.2.2.2.1
  have hXd1 := hC.2.2.2.1.1.2.2.1
  have hdf := hC.2.2.2.1.2
  have hkp : kp.length ≤ 12 := hwf.2.2.1
  have hdl : df.length = Xd.2 := by rw [← hC.2.2.2.1.2, rl_len]
  have hdg : ∀ j, j < df.length → Xd.1 j = lf df j := fun j hj => by rw [← hdf, lf, rl_getD (by omega)]
  refine lv_iload_n hx hb dX2_back_0 rfl (lv_at hl 1 rfl) ?_
  refine wd_callSi (As := [.int t]) (rest := []) (c2 := 0) (s2 := 0) ⟨hx, hb, hml, hown, hts⟩ (k_X2_isNoText l D cI cT w sg.heap.size t ) (va_cwS 1 hts gX2_back_X2_isNoText rfl rfl rfl (by decide +kernel) ⟨Nat.le_of_ble_eq_true rfl, Nat.le_of_ble_eq_true rfl⟩) gK_ok hK hW hS hA rfl hl.1 rfl (Nat.le_of_ble_eq_true rfl) dX2_back_1 ⟨Nat.le_of_ble_eq_true rfl, Nat.le_of_ble_eq_true rfl⟩ rfl rfl (fun r_1 w_1 H locs hp_1 hW hz hS => ?_)
  obtain ⟨q_r, q_w⟩ := hp_1
  subst r_1
  subst w_1
  refine lv_if_ne (tgt := 14) hx hb dX2_back_4 (by decide) (fun c_4 => ?_) (fun c_4 => ?_)
  ·
    have c_4 := j_bn c_4
    refine lv_ldc (v := (-2000000001)) hx hb hown (hts (.constant RX2 47 (-2000000001)) (by decide +kernel)) dX2_back_14 ?_
    refine W.widen (k := 2) (n := 242) (by omega) (by omega) ?_
    refine wd_iret hx hb hr hlocks hW hS dX2_back_16 ?_
    have e9 : s_back (cd, pl, df, tx, kp, rs) t u = ((-2000000001), cd, pl, df, tx, kp, rs) := by simp only [s_back, if_pos (Or.inl c_4), s_w1, s_no, s_mk]
    show _ = (s_back (cd, pl, df, tx, kp, rs) t u).1 ∧ InvC cI cT o (s_back (cd, pl, df, tx, kp, rs) t u).2 _
    rw [e9]
    exact ⟨rfl, tA, kA, dr, drI, wk, wkI, sw, swI, aT, aI, Xd, hC⟩
  ·
    have c_4 := j_b0 c_4
    obtain ⟨tN, htN, htE⟩ := nt_spec c_4
    subst htE
    have hcl_t : (nI tN).toNatClampNeg = tN := nI_clamp (by omega)
    refine lv_iload_n hx hb dX2_back_7 rfl (lv_at hl 2 rfl) ?_
    refine wd_callSi (As := [.int u]) (rest := []) (c2 := 0) (s2 := 0) ⟨hx, hb, hml, hown, hts⟩ (k_X2_isNoText l D cI cT w H.size u ) (va_cwS 1 hts gX2_back_X2_isNoText rfl rfl rfl (by decide +kernel) ⟨Nat.le_of_ble_eq_true rfl, Nat.le_of_ble_eq_true rfl⟩) gK_ok hK hW hS hA rfl hl.1 rfl (Nat.le_of_ble_eq_true rfl) dX2_back_8 ⟨Nat.le_of_ble_eq_true rfl, Nat.le_of_ble_eq_true rfl⟩ rfl rfl (fun r_8 w_8 H locs hp_8 hW hz hS => ?_)
    obtain ⟨q_r, q_w⟩ := hp_8
    subst r_8
    subst w_8
    refine lv_if_eq (tgt := 17) hx hb dX2_back_11 (by decide) (fun c_11 => ?_) (fun c_11 => ?_)
    ·
      have c_11 := j_b0 c_11
      obtain ⟨uN, huN, huE⟩ := nt_spec c_11
      subst huE
      have hcl_u : (nI uN).toNatClampNeg = uN := nI_clamp (by omega)
      refine lv_aload_n hx hb dX2_back_17 rfl (lv_at hl 0 rfl) ?_
      refine wd_get (ci := 2) (v := .ref tA) (C := RX2) (T := TX2) (N := 8) hx hb hts (by decide +kernel) hown hK.1 hW hC.1 rfl 0 (by decide) (hts (.fieldLink RX2 11 "CharRows" "texts" "[LCharRows$Text;") (by decide +kernel)) (fun _ h9 => h9) rfl dX2_back_18 ?_
      refine lv_iload_n hx hb dX2_back_21 rfl (lv_at hl 2 rfl) ?_
      refine wd_aldq hx hb hK.1 hW 1 hC.2.1 rfl (vp_in_nI (by omega) (by omega)) dX2_back_22 ?_
      rw [nI_clamp (by omega)]
      cases htx_22 : tx uN with
      | none =>
        refine wd_topR (y := .null) (by simp [htx_22, va_rf]) ?_
        refine lv_astore_nN (lv' := [(3, .null), (0, .ref o), (1, .int (nI tN)), (2, .int (nI uN))]) hx hb dX2_back_23 rfl hl (by decide) rfl (fun ls hl => ?_)
        refine lv_aload_nN hx hb dX2_back_24 rfl (lv_at hl 0 rfl) ?_
        refine lv_ifnonnullN hx hb dX2_back_25 ?_
        refine lv_aload_n hx hb dX2_back_28 rfl (lv_at hl 1 rfl) ?_
        refine lv_iconst (v := 1) hx hb dX2_back_29 (by decide) ?_
        refine wd_callVi (As := [.int 1]) (rest := []) (c2 := 0) (s2 := 0) ⟨hx, hb, hml, hown, hts⟩ (k_X2_refuse l D cI cT w H.size o tA kA (nI kp.length) dr wk sw cd pl 1 hC.1) (cwV 1 hts gX2_back_X2_refuse rfl rfl rfl (by decide +kernel) ⟨Nat.le_of_ble_eq_true rfl, Nat.le_of_ble_eq_true rfl⟩) gK_ok hK hW (wd_recv (ci := 2) hK.1 hW rfl hC.1) hS hA rfl hl.1 rfl (Nat.le_of_ble_eq_true rfl) dX2_back_30 ⟨Nat.le_of_ble_eq_true rfl, Nat.le_of_ble_eq_true rfl⟩ rfl rfl (fun r_30 w_30 H locs hp_30 hW hz hS => ?_)
        obtain ⟨q_r, q_w⟩ := hp_30
        subst r_30
        subst w_30
        have hC := hC.obj 1 pl
        refine W.widen (k := 2) (n := 242) (by omega) (by omega) ?_
        refine wd_iret hx hb hr hlocks hW hS dX2_back_33 ?_
        have e9 : s_back (cd, pl, df, tx, kp, rs) (nI tN) (nI uN) = (0, 1, pl, df, tx, kp, rs) := by simp only [s_back, if_neg (not_or.mpr ⟨c_4, c_11⟩), s_w1, s_no, s_mk, hcl_t, hcl_u, htx_22]
        show _ = (s_back (cd, pl, df, tx, kp, rs) (nI tN) (nI uN)).1 ∧ InvC cI cT o (s_back (cd, pl, df, tx, kp, rs) (nI tN) (nI uN)).2 _
        rw [e9]
        exact ⟨rfl, tA, kA, dr, drI, wk, wkI, sw, swI, aT, aI, Xd, hC⟩
      | some r_22 =>
        refine wd_topR (y := .ref (aT r_22)) (by simp [htx_22, va_rf]) ?_
        have hl_22 : live tx kp r_22 := Or.inl ⟨_, htx_22⟩
        have hok_22 : rOK (rs r_22) := (hwf.2.2.2.1 r_22 hl_22).2
        have hlen_22 := hok_22.len
        refine lv_astore_n (lv' := [(3, .ref (aT r_22)), (0, .ref o), (1, .int (nI tN)), (2, .int (nI uN))]) hx hb dX2_back_23 rfl hl (by decide) rfl (fun ls hl => ?_)
        refine lv_aload_n hx hb dX2_back_24 rfl (lv_at hl 0 rfl) ?_
        refine lv_ifnonnull (tgt := 34) hx hb dX2_back_25 (by decide) ?_
        refine lv_aload_n hx hb dX2_back_34 rfl (lv_at hl 0 rfl) ?_
        refine lv_aload_n hx hb dX2_back_35 rfl (lv_at hl 1 rfl) ?_
        refine wd_get (ci := 2) (v := .ref wk) (C := RX2) (T := TX2) (N := 8) hx hb hts (by decide +kernel) hown hK.1 hW hC.1 rfl 4 (by decide) (hts (.fieldLink RX2 31 "CharRows" "work" "LCharRows$Row;") (by decide +kernel)) (fun _ h9 => h9) rfl dX2_back_36 ?_
        refine wd_callSv (As := [.ref (aT r_22), .ref wk]) (rest := []) (c2 := 0) (s2 := 0) ⟨hx, hb, hml, hown, hts⟩ (k_X2_listPoints l D cI cT w H.size (aT r_22) (aI r_22) ((rs r_22).1) ((rs r_22).2.length) (lf (rs r_22).2) wk wkI 240 Xw (⟨(hC.2.2.2.2.2.2.2.1 r_22 hl_22).1, (hC.2.2.2.2.2.2.2.1 r_22 hl_22).2.1, by omega⟩) hXw ((hC.2.2.2.2.2.2.2.1 r_22 hl_22).2.2.2.1)) (va_cwS 2 hts gX2_back_X2_listPoints rfl rfl rfl (by decide +kernel) ⟨Nat.le_of_ble_eq_true rfl, Nat.le_of_ble_eq_true rfl⟩) gK_ok hK hW hS hA rfl hl.1 rfl (Nat.le_of_ble_eq_true rfl) dX2_back_39 ⟨Nat.le_of_ble_eq_true rfl, Nat.le_of_ble_eq_true rfl⟩ rfl rfl (fun w_39 H locs hp_39 hW hz hS => ?_)
        subst w_39
        have hXs := hC.kWS (Y := r_lp 240 ((rs r_22).1) (lf (rs r_22).2) ((rs r_22).2.length) Xw) hXs
        have hXw : rowAt (rowSet w wk wkI cI 240 (r_lp 240 ((rs r_22).1) (lf (rs r_22).2) ((rs r_22).2.length) Xw)) wk wkI cI 240 (r_lp 240 ((rs r_22).1) (lf (rs r_22).2) ((rs r_22).2.length) Xw) := rowSet_at hXw.ne r_lp_le (by omega)
        have hC := hC.work (r_lp 240 ((rs r_22).1) (lf (rs r_22).2) ((rs r_22).2.length) Xw) hXw.2.2.1
        have hXc_39 := hXw.2.2.1
        have hxs : u_pl (rs r_22).1 (rs r_22).2 = rl (r_lp 240 (rs r_22).1 (lf (rs r_22).2) (rs r_22).2.length Xw) := (rl_lp (by omega) (by omega)).symm
        have hcnt := congrArg List.length hxs
        rw [rl_len] at hcnt
        have hle := u_pl_len (rs r_22).1 (rs r_22).2
        refine lv_aload_n hx hb dX2_back_42 rfl (lv_at hl 1 rfl) ?_
        refine wd_get (ci := 2) (v := .ref sw) (C := RX2) (T := TX2) (N := 8) hx hb hts (by decide +kernel) hown hK.1 hW hC.1 rfl 5 (by decide) (hts (.fieldLink RX2 34 "CharRows" "secondWork" "LCharRows$Row;") (by decide +kernel)) (fun _ h9 => h9) rfl dX2_back_43 ?_
        refine wd_callVv (As := []) (rest := []) (c2 := 0) (s2 := 0) ⟨hx, hb, hml, hown, hts⟩ (k_X0_empty l D cI cT (rowSet w wk wkI cI 240 (r_lp 240 ((rs r_22).1) (lf (rs r_22).2) ((rs r_22).2.length) Xw)) H.size sw swI 240 Xs hXs) (cwV 0 hts gX2_back_X0_empty rfl rfl rfl (by decide +kernel) ⟨Nat.le_of_ble_eq_true rfl, Nat.le_of_ble_eq_true rfl⟩) gK_ok hK hW (wd_recv (ci := 0) hK.1 hW rfl hXs.1) hS hA rfl hl.1 rfl (Nat.le_of_ble_eq_true rfl) dX2_back_46 ⟨Nat.le_of_ble_eq_true rfl, Nat.le_of_ble_eq_true rfl⟩ rfl rfl (fun w_46 H locs hp_46 hW hz hS => ?_)
        subst w_46
        have hXw := hC.kSW (Y := r_nil Xs) hXw
        have hXs : rowAt (rowSet (rowSet w wk wkI cI 240 (r_lp 240 ((rs r_22).1) (lf (rs r_22).2) ((rs r_22).2.length) Xw)) sw swI cI 240 (r_nil Xs)) sw swI cI 240 (r_nil Xs) := rowSet_at hXs.ne (Nat.zero_le _) (by omega)
        have hC := hC.second (r_nil Xs) hXs.2.2.1
        have hXc_46 := hXs.2.2.1
        refine lv_aload_n hx hb dX2_back_49 rfl (lv_at hl 1 rfl) ?_
        refine wd_get (ci := 2) (v := .ref wk) (C := RX2) (T := TX2) (N := 8) hx hb hts (by decide +kernel) hown hK.1 hW hC.1 rfl 4 (by decide) (hts (.fieldLink RX2 31 "CharRows" "work" "LCharRows$Row;") (by decide +kernel)) (fun _ h9 => h9) rfl dX2_back_50 ?_
        refine wd_get (ci := 0) (v := .int (nI ((r_lp 240 ((rs r_22).1) (lf (rs r_22).2) ((rs r_22).2.length) Xw).2))) (C := RX0) (T := TX0) (N := 2) hx hb hts (by decide +kernel) hown hK.1 hW hXw.1 rfl 1 (by decide) (hts (.fieldLink RX2 48 "CharRows$Row" "count" "I") (by decide +kernel)) (fun _ h9 => h9) rfl dX2_back_53 ?_
        refine lv_iconst (v := 1) hx hb dX2_back_56 (by decide) ?_
        refine lv_isub hx hb dX2_back_57 ?_
        refine lv_istore (lv' := [(4, .int ((nI ((r_lp 240 ((rs r_22).1) (lf (rs r_22).2) ((rs r_22).2.length) Xw).2)) - 1)), (3, .ref (aT r_22)), (0, .ref o), (1, .int (nI tN)), (2, .int (nI uN))]) hx hb dX2_back_58 hl (by decide) rfl (fun ls hl => ?_)
        refine wd_loop1 (fun (j : Nat) (H : Heap) (locs : List Loc) (ls : Array Slot) => (j ≤ (r_lp 240 (rs r_22).1 (lf (rs r_22).2) (rs r_22).2.length Xw).2) ∧ wd_P D vwCl (wd_A w sg.heap.size) (rowSet (rowSet (rowSet w wk wkI cI 240 (r_lp 240 ((rs r_22).1) (lf (rs r_22).2) ((rs r_22).2.length) Xw)) sw swI cI 240 (r_nil Xs)) sw swI cI 240 (itN (fun j Z => if (rs r_22).1 = 0 then r_uni 240 ((r_lp 240 (rs r_22).1 (lf (rs r_22).2) (rs r_22).2.length Xw).1 ((r_lp 240 (rs r_22).1 (lf (rs r_22).2) (rs r_22).2.length Xw).2 - 1 - j)) Z else r_add 240 ((r_lp 240 (rs r_22).1 (lf (rs r_22).2) (rs r_22).2.length Xw).1 ((r_lp 240 (rs r_22).1 (lf (rs r_22).2) (rs r_22).2.length Xw).2 - 1 - j)) Z) j (r_nil Xs))) H ∧ va_S (wd_A w sg.heap.size) sg.heap H locs ∧ lv_has ls 5 [(0, .ref o), (1, .int (nI tN)), (2, .int (nI uN)), (3, .ref (aT r_22)), (4, .int (nI ((r_lp 240 (rs r_22).1 (lf (rs r_22).2) (rs r_22).2.length Xw).2 - j) - 1))]) (fun (j : Nat) => (r_lp 240 (rs r_22).1 (lf (rs r_22).2) (rs r_22).2.length Xw).2 - j) 0 ⟨(Nat.zero_le _), (by rw [show itN (fun j Z => if (rs r_22).1 = 0 then r_uni 240 ((r_lp 240 (rs r_22).1 (lf (rs r_22).2) (rs r_22).2.length Xw).1 ((r_lp 240 (rs r_22).1 (lf (rs r_22).2) (rs r_22).2.length Xw).2 - 1 - j)) Z else r_add 240 ((r_lp 240 (rs r_22).1 (lf (rs r_22).2) (rs r_22).2.length Xw).1 ((r_lp 240 (rs r_22).1 (lf (rs r_22).2) (rs r_22).2.length Xw).2 - 1 - j)) Z) 0 (r_nil Xs) = r_nil Xs from rfl, rowSet_self hXs]; exact hW), hS, (lv_sub hl [2, 3, 4, 1, 0] rfl)⟩ (fun j H locs ls hI ih => ?_)
        obtain ⟨hj, hW, hS, hl⟩ := hI
        have hXw := hC.kSW (Y := itN (fun j Z => if (rs r_22).1 = 0 then r_uni 240 ((r_lp 240 (rs r_22).1 (lf (rs r_22).2) (rs r_22).2.length Xw).1 ((r_lp 240 (rs r_22).1 (lf (rs r_22).2) (rs r_22).2.length Xw).2 - 1 - j)) Z else r_add 240 ((r_lp 240 (rs r_22).1 (lf (rs r_22).2) (rs r_22).2.length Xw).1 ((r_lp 240 (rs r_22).1 (lf (rs r_22).2) (rs r_22).2.length Xw).2 - 1 - j)) Z) j (r_nil Xs)) hXw
        have hXs : rowAt (rowSet (rowSet (rowSet w wk wkI cI 240 (r_lp 240 ((rs r_22).1) (lf (rs r_22).2) ((rs r_22).2.length) Xw)) sw swI cI 240 (r_nil Xs)) sw swI cI 240 (itN (fun j Z => if (rs r_22).1 = 0 then r_uni 240 ((r_lp 240 (rs r_22).1 (lf (rs r_22).2) (rs r_22).2.length Xw).1 ((r_lp 240 (rs r_22).1 (lf (rs r_22).2) (rs r_22).2.length Xw).2 - 1 - j)) Z else r_add 240 ((r_lp 240 (rs r_22).1 (lf (rs r_22).2) (rs r_22).2.length Xw).1 ((r_lp 240 (rs r_22).1 (lf (rs r_22).2) (rs r_22).2.length Xw).2 - 1 - j)) Z) j (r_nil Xs))) sw swI cI 240 (itN (fun j Z => if (rs r_22).1 = 0 then r_uni 240 ((r_lp 240 (rs r_22).1 (lf (rs r_22).2) (rs r_22).2.length Xw).1 ((r_lp 240 (rs r_22).1 (lf (rs r_22).2) (rs r_22).2.length Xw).2 - 1 - j)) Z else r_add 240 ((r_lp 240 (rs r_22).1 (lf (rs r_22).2) (rs r_22).2.length Xw).1 ((r_lp 240 (rs r_22).1 (lf (rs r_22).2) (rs r_22).2.length Xw).2 - 1 - j)) Z) j (r_nil Xs)) := rowSet_at hXs.ne (itN_le (fun _ _ h => by split; exact r_uni_le h; exact r_add_le h) _ _ (Nat.zero_le _)) (by omega)
        have hC := hC.second (itN (fun j Z => if (rs r_22).1 = 0 then r_uni 240 ((r_lp 240 (rs r_22).1 (lf (rs r_22).2) (rs r_22).2.length Xw).1 ((r_lp 240 (rs r_22).1 (lf (rs r_22).2) (rs r_22).2.length Xw).2 - 1 - j)) Z else r_add 240 ((r_lp 240 (rs r_22).1 (lf (rs r_22).2) (rs r_22).2.length Xw).1 ((r_lp 240 (rs r_22).1 (lf (rs r_22).2) (rs r_22).2.length Xw).2 - 1 - j)) Z) j (r_nil Xs)) hXs.2.2.1
        have hXc_58 := hXs.2.2.1
        refine lv_iload hx hb dX2_back_60 (lv_at hl 4 rfl) ?_
        refine lv_if_lt (tgt := 128) hx hb dX2_back_62 (by decide) (fun c_62 => ?_) (fun c_62 => ?_)
        ·
          have c_62 : (r_lp 240 (rs r_22).1 (lf (rs r_22).2) (rs r_22).2.length Xw).2 - j = 0 := (i_m1 (by omega)).mp c_62
          refine lv_aload_n hx hb dX2_back_128 rfl (lv_at hl 0 rfl) ?_
          refine lv_iload_n hx hb dX2_back_129 rfl (lv_at hl 1 rfl) ?_
          refine lv_aload_n hx hb dX2_back_130 rfl (lv_at hl 3 rfl) ?_
          refine wd_get (ci := 1) (v := .int ((rs r_22).1)) (C := RX1) (T := TX1) (N := 2) hx hb hts (by decide +kernel) hown hK.1 hW (hC.2.2.2.2.2.2.2.1 r_22 hl_22).1 rfl 0 (by decide) (hts (.fieldLink RX2 94 "CharRows$Text" "kindOfItems" "I") (by decide +kernel)) (fun _ h9 => h9) rfl dX2_back_131 ?_
          refine lv_aload_n hx hb dX2_back_134 rfl (lv_at hl 0 rfl) ?_
          refine wd_get (ci := 2) (v := .ref sw) (C := RX2) (T := TX2) (N := 8) hx hb hts (by decide +kernel) hown hK.1 hW hC.1 rfl 5 (by decide) (hts (.fieldLink RX2 34 "CharRows" "secondWork" "LCharRows$Row;") (by decide +kernel)) (fun _ h9 => h9) rfl dX2_back_135 ?_
          refine wd_callVi (As := [.int (nI tN), .int ((rs r_22).1), .ref sw]) (rest := []) (c2 := 2) (s2 := 242) ⟨hx, hb, hml, hown, hts⟩ (k_X2_setText l D cI cT (rowSet (rowSet (rowSet w wk wkI cI 240 (r_lp 240 ((rs r_22).1) (lf (rs r_22).2) ((rs r_22).2.length) Xw)) sw swI cI 240 (r_nil Xs)) sw swI cI 240 (itN (fun j Z => if (rs r_22).1 = 0 then r_uni 240 ((r_lp 240 (rs r_22).1 (lf (rs r_22).2) (rs r_22).2.length Xw).1 ((r_lp 240 (rs r_22).1 (lf (rs r_22).2) (rs r_22).2.length Xw).2 - 1 - j)) Z else r_add 240 ((r_lp 240 (rs r_22).1 (lf (rs r_22).2) (rs r_22).2.length Xw).1 ((r_lp 240 (rs r_22).1 (lf (rs r_22).2) (rs r_22).2.length Xw).2 - 1 - j)) Z) j (r_nil Xs))) H.size o tA kA (nI kp.length) dr wk sw cd pl (fun t => (tx t).map aT) tN ((rs r_22).1) sw swI 240 (itN (fun j Z => if (rs r_22).1 = 0 then r_uni 240 ((r_lp 240 (rs r_22).1 (lf (rs r_22).2) (rs r_22).2.length Xw).1 ((r_lp 240 (rs r_22).1 (lf (rs r_22).2) (rs r_22).2.length Xw).2 - 1 - j)) Z else r_add 240 ((r_lp 240 (rs r_22).1 (lf (rs r_22).2) (rs r_22).2.length Xw).1 ((r_lp 240 (rs r_22).1 (lf (rs r_22).2) (rs r_22).2.length Xw).2 - 1 - j)) Z) j (r_nil Xs)) hC.1 hC.2.1 (by omega) hXs) (cwV 3 hts gX2_back_X2_setText rfl rfl rfl (by decide +kernel) ⟨Nat.le_of_ble_eq_true rfl, Nat.le_of_ble_eq_true rfl⟩) gK_ok hK hW (wd_recv (ci := 2) hK.1 hW rfl hC.1) hS hA rfl hl.1 rfl (Nat.le_of_ble_eq_true rfl) dX2_back_138 ⟨Nat.le_of_ble_eq_true rfl, Nat.le_of_ble_eq_true rfl⟩ rfl rfl (fun r_138 w_138 H locs hp_138 hW hz hS => ?_)
          obtain ⟨q_r, q_e⟩ := hp_138
          subst r_138
          obtain ⟨w_s, aT', aI', hW, hC⟩ := c_setText hC (u_free_spec hwf.2.1 hwf.2.2.1).1 q_e hW
          refine wd_iret hx hb hr hlocks hW hS dX2_back_141 ?_
          have e9 : s_back (cd, pl, df, tx, kp, rs) (nI tN) (nI uN) = (nI ((itN (fun j Z => if (rs r_22).1 = 0 then r_uni 240 ((r_lp 240 (rs r_22).1 (lf (rs r_22).2) (rs r_22).2.length Xw).1 ((r_lp 240 (rs r_22).1 (lf (rs r_22).2) (rs r_22).2.length Xw).2 - 1 - j)) Z else r_add 240 ((r_lp 240 (rs r_22).1 (lf (rs r_22).2) (rs r_22).2.length Xw).1 ((r_lp 240 (rs r_22).1 (lf (rs r_22).2) (rs r_22).2.length Xw).2 - 1 - j)) Z) j (r_nil Xs)).2), 0, pl, df, (va_up tx tN (some (u_free tx kp))), kp, (va_up rs (u_free tx kp) ((rs r_22).1, rl (itN (fun j Z => if (rs r_22).1 = 0 then r_uni 240 ((r_lp 240 (rs r_22).1 (lf (rs r_22).2) (rs r_22).2.length Xw).1 ((r_lp 240 (rs r_22).1 (lf (rs r_22).2) (rs r_22).2.length Xw).2 - 1 - j)) Z else r_add 240 ((r_lp 240 (rs r_22).1 (lf (rs r_22).2) (rs r_22).2.length Xw).1 ((r_lp 240 (rs r_22).1 (lf (rs r_22).2) (rs r_22).2.length Xw).2 - 1 - j)) Z) j (r_nil Xs))))) := by simp only [s_back, if_neg (not_or.mpr ⟨c_4, c_11⟩), s_w1, s_no, s_mk, hcl_t, hcl_u, htx_22]; rw [hxs, show (rl (r_lp 240 (rs r_22).1 (lf (rs r_22).2) (rs r_22).2.length Xw)).reverse.flatMap (fun p => if (rs r_22).1 = 0 then u_units p else [p]) = rl (itN (fun j Z => if (rs r_22).1 = 0 then r_uni 240 ((r_lp 240 (rs r_22).1 (lf (rs r_22).2) (rs r_22).2.length Xw).1 ((r_lp 240 (rs r_22).1 (lf (rs r_22).2) (rs r_22).2.length Xw).2 - 1 - j)) Z else r_add 240 ((r_lp 240 (rs r_22).1 (lf (rs r_22).2) (rs r_22).2.length Xw).1 ((r_lp 240 (rs r_22).1 (lf (rs r_22).2) (rs r_22).2.length Xw).2 - 1 - j)) Z) j (r_nil Xs)) from by rw [show j = (r_lp 240 (rs r_22).1 (lf (rs r_22).2) (rs r_22).2.length Xw).2 by omega]; exact (rl_back (fun h1 => by have := hok_22.len2 (by rw [h1]; decide); omega) (by omega)).symm, rl_len]
          show _ = (s_back (cd, pl, df, tx, kp, rs) (nI tN) (nI uN)).1 ∧ InvC cI cT o (s_back (cd, pl, df, tx, kp, rs) (nI tN) (nI uN)).2 _
          rw [e9]
          exact ⟨rfl, tA, kA, dr, drI, wk, wkI, sw, swI, aT', aI', Xd, hC⟩
        ·
          have c_62 : ¬ (r_lp 240 (rs r_22).1 (lf (rs r_22).2) (rs r_22).2.length Xw).2 - j = 0 := fun q => c_62 ((i_m1 (by omega)).mpr q)
          have hc62 : nI ((r_lp 240 (rs r_22).1 (lf (rs r_22).2) (rs r_22).2.length Xw).2 - j) - 1 = nI ((r_lp 240 (rs r_22).1 (lf (rs r_22).2) (rs r_22).2.length Xw).2 - j - 1) := pk_sub (a := (r_lp 240 (rs r_22).1 (lf (rs r_22).2) (rs r_22).2.length Xw).2 - j) (b := 1) (by omega)
          rw [hc62] at hl
          refine lv_iload hx hb dX2_back_65 (lv_at hl 4 rfl) ?_
          refine lv_aload_n hx hb dX2_back_67 rfl (lv_at hl 0 rfl) ?_
          refine wd_get (ci := 2) (v := .ref wk) (C := RX2) (T := TX2) (N := 8) hx hb hts (by decide +kernel) hown hK.1 hW hC.1 rfl 4 (by decide) (hts (.fieldLink RX2 31 "CharRows" "work" "LCharRows$Row;") (by decide +kernel)) (fun _ h9 => h9) rfl dX2_back_68 ?_
          refine wd_get (ci := 0) (v := .ref wkI) (C := RX0) (T := TX0) (N := 2) hx hb hts (by decide +kernel) hown hK.1 hW hXw.1 rfl 0 (by decide) (hts (.fieldLink RX2 74 "CharRows$Row" "items" "[I") (by decide +kernel)) (fun _ h9 => h9) rfl dX2_back_71 ?_
          refine wd_alen hx hb hK.1 hW 0 hXw.2.1 rfl dX2_back_74 ?_
          refine lv_icmp_ge (tgt := 128) hx hb dX2_back_75 (by decide) (fun c_75 => ?_) (fun c_75 => ?_)
          ·
            have c_75 : 240 ≤ (r_lp 240 (rs r_22).1 (lf (rs r_22).2) (rs r_22).2.length Xw).2 - j - 1 := (nI_leI (by omega) (by omega)).mp (show (nI 240 ≤ nI ((r_lp 240 (rs r_22).1 (lf (rs r_22).2) (rs r_22).2.length Xw).2 - j - 1)) from c_75)
            refine lv_aload_n hx hb dX2_back_128 rfl (lv_at hl 0 rfl) ?_
            refine lv_iload_n hx hb dX2_back_129 rfl (lv_at hl 1 rfl) ?_
            refine lv_aload_n hx hb dX2_back_130 rfl (lv_at hl 3 rfl) ?_
            refine wd_get (ci := 1) (v := .int ((rs r_22).1)) (C := RX1) (T := TX1) (N := 2) hx hb hts (by decide +kernel) hown hK.1 hW (hC.2.2.2.2.2.2.2.1 r_22 hl_22).1 rfl 0 (by decide) (hts (.fieldLink RX2 94 "CharRows$Text" "kindOfItems" "I") (by decide +kernel)) (fun _ h9 => h9) rfl dX2_back_131 ?_
            refine lv_aload_n hx hb dX2_back_134 rfl (lv_at hl 0 rfl) ?_
            refine wd_get (ci := 2) (v := .ref sw) (C := RX2) (T := TX2) (N := 8) hx hb hts (by decide +kernel) hown hK.1 hW hC.1 rfl 5 (by decide) (hts (.fieldLink RX2 34 "CharRows" "secondWork" "LCharRows$Row;") (by decide +kernel)) (fun _ h9 => h9) rfl dX2_back_135 ?_
            refine wd_callVi (As := [.int (nI tN), .int ((rs r_22).1), .ref sw]) (rest := []) (c2 := 2) (s2 := 242) ⟨hx, hb, hml, hown, hts⟩ (k_X2_setText l D cI cT (rowSet (rowSet (rowSet w wk wkI cI 240 (r_lp 240 ((rs r_22).1) (lf (rs r_22).2) ((rs r_22).2.length) Xw)) sw swI cI 240 (r_nil Xs)) sw swI cI 240 (itN (fun j Z => if (rs r_22).1 = 0 then r_uni 240 ((r_lp 240 (rs r_22).1 (lf (rs r_22).2) (rs r_22).2.length Xw).1 ((r_lp 240 (rs r_22).1 (lf (rs r_22).2) (rs r_22).2.length Xw).2 - 1 - j)) Z else r_add 240 ((r_lp 240 (rs r_22).1 (lf (rs r_22).2) (rs r_22).2.length Xw).1 ((r_lp 240 (rs r_22).1 (lf (rs r_22).2) (rs r_22).2.length Xw).2 - 1 - j)) Z) j (r_nil Xs))) H.size o tA kA (nI kp.length) dr wk sw cd pl (fun t => (tx t).map aT) tN ((rs r_22).1) sw swI 240 (itN (fun j Z => if (rs r_22).1 = 0 then r_uni 240 ((r_lp 240 (rs r_22).1 (lf (rs r_22).2) (rs r_22).2.length Xw).1 ((r_lp 240 (rs r_22).1 (lf (rs r_22).2) (rs r_22).2.length Xw).2 - 1 - j)) Z else r_add 240 ((r_lp 240 (rs r_22).1 (lf (rs r_22).2) (rs r_22).2.length Xw).1 ((r_lp 240 (rs r_22).1 (lf (rs r_22).2) (rs r_22).2.length Xw).2 - 1 - j)) Z) j (r_nil Xs)) hC.1 hC.2.1 (by omega) hXs) (cwV 3 hts gX2_back_X2_setText rfl rfl rfl (by decide +kernel) ⟨Nat.le_of_ble_eq_true rfl, Nat.le_of_ble_eq_true rfl⟩) gK_ok hK hW (wd_recv (ci := 2) hK.1 hW rfl hC.1) hS hA rfl hl.1 rfl (Nat.le_of_ble_eq_true rfl) dX2_back_138 ⟨Nat.le_of_ble_eq_true rfl, Nat.le_of_ble_eq_true rfl⟩ rfl rfl (fun r_138 w_138 H locs hp_138 hW hz hS => ?_)
            obtain ⟨q_r, q_e⟩ := hp_138
            subst r_138
            obtain ⟨w_s, aT', aI', hW, hC⟩ := c_setText hC (u_free_spec hwf.2.1 hwf.2.2.1).1 q_e hW
            refine wd_iret hx hb hr hlocks hW hS dX2_back_141 ?_
            have e9 : s_back (cd, pl, df, tx, kp, rs) (nI tN) (nI uN) = (nI ((itN (fun j Z => if (rs r_22).1 = 0 then r_uni 240 ((r_lp 240 (rs r_22).1 (lf (rs r_22).2) (rs r_22).2.length Xw).1 ((r_lp 240 (rs r_22).1 (lf (rs r_22).2) (rs r_22).2.length Xw).2 - 1 - j)) Z else r_add 240 ((r_lp 240 (rs r_22).1 (lf (rs r_22).2) (rs r_22).2.length Xw).1 ((r_lp 240 (rs r_22).1 (lf (rs r_22).2) (rs r_22).2.length Xw).2 - 1 - j)) Z) j (r_nil Xs)).2), 0, pl, df, (va_up tx tN (some (u_free tx kp))), kp, (va_up rs (u_free tx kp) ((rs r_22).1, rl (itN (fun j Z => if (rs r_22).1 = 0 then r_uni 240 ((r_lp 240 (rs r_22).1 (lf (rs r_22).2) (rs r_22).2.length Xw).1 ((r_lp 240 (rs r_22).1 (lf (rs r_22).2) (rs r_22).2.length Xw).2 - 1 - j)) Z else r_add 240 ((r_lp 240 (rs r_22).1 (lf (rs r_22).2) (rs r_22).2.length Xw).1 ((r_lp 240 (rs r_22).1 (lf (rs r_22).2) (rs r_22).2.length Xw).2 - 1 - j)) Z) j (r_nil Xs))))) := by simp only [s_back, if_neg (not_or.mpr ⟨c_4, c_11⟩), s_w1, s_no, s_mk, hcl_t, hcl_u, htx_22]; rw [hxs, show (rl (r_lp 240 (rs r_22).1 (lf (rs r_22).2) (rs r_22).2.length Xw)).reverse.flatMap (fun p => if (rs r_22).1 = 0 then u_units p else [p]) = rl (itN (fun j Z => if (rs r_22).1 = 0 then r_uni 240 ((r_lp 240 (rs r_22).1 (lf (rs r_22).2) (rs r_22).2.length Xw).1 ((r_lp 240 (rs r_22).1 (lf (rs r_22).2) (rs r_22).2.length Xw).2 - 1 - j)) Z else r_add 240 ((r_lp 240 (rs r_22).1 (lf (rs r_22).2) (rs r_22).2.length Xw).1 ((r_lp 240 (rs r_22).1 (lf (rs r_22).2) (rs r_22).2.length Xw).2 - 1 - j)) Z) j (r_nil Xs)) from by rw [show j = (r_lp 240 (rs r_22).1 (lf (rs r_22).2) (rs r_22).2.length Xw).2 by omega]; exact (rl_back (fun h1 => by have := hok_22.len2 (by rw [h1]; decide); omega) (by omega)).symm, rl_len]
            show _ = (s_back (cd, pl, df, tx, kp, rs) (nI tN) (nI uN)).1 ∧ InvC cI cT o (s_back (cd, pl, df, tx, kp, rs) (nI tN) (nI uN)).2 _
            rw [e9]
            exact ⟨rfl, tA, kA, dr, drI, wk, wkI, sw, swI, aT', aI', Xd, hC⟩
          ·
            have c_75 : ¬ (240 ≤ (r_lp 240 (rs r_22).1 (lf (rs r_22).2) (rs r_22).2.length Xw).2 - j - 1) := fun q9 => absurd ((nI_leI (by omega) (by omega)).mpr q9) (show ¬ (nI 240 ≤ nI ((r_lp 240 (rs r_22).1 (lf (rs r_22).2) (rs r_22).2.length Xw).2 - j - 1)) from c_75)
            refine lv_aload_n hx hb dX2_back_78 rfl (lv_at hl 3 rfl) ?_
            refine wd_get (ci := 1) (v := .int ((rs r_22).1)) (C := RX1) (T := TX1) (N := 2) hx hb hts (by decide +kernel) hown hK.1 hW (hC.2.2.2.2.2.2.2.1 r_22 hl_22).1 rfl 0 (by decide) (hts (.fieldLink RX2 94 "CharRows$Text" "kindOfItems" "I") (by decide +kernel)) (fun _ h9 => h9) rfl dX2_back_79 ?_
            refine lv_if_ne (tgt := 105) hx hb dX2_back_82 (by decide) (fun c_82 => ?_) (fun c_82 => ?_)
            ·
              refine lv_aload_n hx hb dX2_back_105 rfl (lv_at hl 0 rfl) ?_
              refine wd_get (ci := 2) (v := .ref sw) (C := RX2) (T := TX2) (N := 8) hx hb hts (by decide +kernel) hown hK.1 hW hC.1 rfl 5 (by decide) (hts (.fieldLink RX2 34 "CharRows" "secondWork" "LCharRows$Row;") (by decide +kernel)) (fun _ h9 => h9) rfl dX2_back_106 ?_
              refine lv_aload_n hx hb dX2_back_109 rfl (lv_at hl 0 rfl) ?_
              refine wd_get (ci := 2) (v := .ref wk) (C := RX2) (T := TX2) (N := 8) hx hb hts (by decide +kernel) hown hK.1 hW hC.1 rfl 4 (by decide) (hts (.fieldLink RX2 31 "CharRows" "work" "LCharRows$Row;") (by decide +kernel)) (fun _ h9 => h9) rfl dX2_back_110 ?_
              refine wd_get (ci := 0) (v := .ref wkI) (C := RX0) (T := TX0) (N := 2) hx hb hts (by decide +kernel) hown hK.1 hW hXw.1 rfl 0 (by decide) (hts (.fieldLink RX2 74 "CharRows$Row" "items" "[I") (by decide +kernel)) (fun _ h9 => h9) rfl dX2_back_113 ?_
              refine lv_iload hx hb dX2_back_116 (lv_at hl 4 rfl) ?_
              refine wd_iald hx hb hK.1 hW 0 hXw.2.1 rfl (vp_in_nI (by omega) (by omega)) dX2_back_118 ?_
              refine wd_topE (y := (r_lp 240 ((rs r_22).1) (lf (rs r_22).2) ((rs r_22).2.length) Xw).1 ((r_lp 240 (rs r_22).1 (lf (rs r_22).2) (rs r_22).2.length Xw).2 - j - 1)) (by rw [nI_clamp (by omega)]) ?_
              refine wd_callVv (As := [.int ((r_lp 240 ((rs r_22).1) (lf (rs r_22).2) ((rs r_22).2.length) Xw).1 ((r_lp 240 (rs r_22).1 (lf (rs r_22).2) (rs r_22).2.length Xw).2 - j - 1))]) (rest := []) (c2 := 0) (s2 := 0) ⟨hx, hb, hml, hown, hts⟩ (k_X0_add l D cI cT (rowSet (rowSet (rowSet w wk wkI cI 240 (r_lp 240 ((rs r_22).1) (lf (rs r_22).2) ((rs r_22).2.length) Xw)) sw swI cI 240 (r_nil Xs)) sw swI cI 240 (itN (fun j Z => if (rs r_22).1 = 0 then r_uni 240 ((r_lp 240 (rs r_22).1 (lf (rs r_22).2) (rs r_22).2.length Xw).1 ((r_lp 240 (rs r_22).1 (lf (rs r_22).2) (rs r_22).2.length Xw).2 - 1 - j)) Z else r_add 240 ((r_lp 240 (rs r_22).1 (lf (rs r_22).2) (rs r_22).2.length Xw).1 ((r_lp 240 (rs r_22).1 (lf (rs r_22).2) (rs r_22).2.length Xw).2 - 1 - j)) Z) j (r_nil Xs))) H.size sw swI 240 (itN (fun j Z => if (rs r_22).1 = 0 then r_uni 240 ((r_lp 240 (rs r_22).1 (lf (rs r_22).2) (rs r_22).2.length Xw).1 ((r_lp 240 (rs r_22).1 (lf (rs r_22).2) (rs r_22).2.length Xw).2 - 1 - j)) Z else r_add 240 ((r_lp 240 (rs r_22).1 (lf (rs r_22).2) (rs r_22).2.length Xw).1 ((r_lp 240 (rs r_22).1 (lf (rs r_22).2) (rs r_22).2.length Xw).2 - 1 - j)) Z) j (r_nil Xs)) ((r_lp 240 ((rs r_22).1) (lf (rs r_22).2) ((rs r_22).2.length) Xw).1 ((r_lp 240 (rs r_22).1 (lf (rs r_22).2) (rs r_22).2.length Xw).2 - j - 1)) hXs) (cwV 1 hts gX2_back_X0_add rfl rfl rfl (by decide +kernel) ⟨Nat.le_of_ble_eq_true rfl, Nat.le_of_ble_eq_true rfl⟩) gK_ok hK hW (wd_recv (ci := 0) hK.1 hW rfl hXs.1) hS hA rfl hl.1 rfl (Nat.le_of_ble_eq_true rfl) dX2_back_119 ⟨Nat.le_of_ble_eq_true rfl, Nat.le_of_ble_eq_true rfl⟩ rfl rfl (fun w_119 H locs hp_119 hW hz hS => ?_)
              subst w_119
              have hXw := hC.kSW (Y := r_add 240 ((r_lp 240 ((rs r_22).1) (lf (rs r_22).2) ((rs r_22).2.length) Xw).1 ((r_lp 240 (rs r_22).1 (lf (rs r_22).2) (rs r_22).2.length Xw).2 - j - 1)) (itN (fun j Z => if (rs r_22).1 = 0 then r_uni 240 ((r_lp 240 (rs r_22).1 (lf (rs r_22).2) (rs r_22).2.length Xw).1 ((r_lp 240 (rs r_22).1 (lf (rs r_22).2) (rs r_22).2.length Xw).2 - 1 - j)) Z else r_add 240 ((r_lp 240 (rs r_22).1 (lf (rs r_22).2) (rs r_22).2.length Xw).1 ((r_lp 240 (rs r_22).1 (lf (rs r_22).2) (rs r_22).2.length Xw).2 - 1 - j)) Z) j (r_nil Xs))) hXw
              have hXs : rowAt (rowSet (rowSet (rowSet (rowSet w wk wkI cI 240 (r_lp 240 ((rs r_22).1) (lf (rs r_22).2) ((rs r_22).2.length) Xw)) sw swI cI 240 (r_nil Xs)) sw swI cI 240 (itN (fun j Z => if (rs r_22).1 = 0 then r_uni 240 ((r_lp 240 (rs r_22).1 (lf (rs r_22).2) (rs r_22).2.length Xw).1 ((r_lp 240 (rs r_22).1 (lf (rs r_22).2) (rs r_22).2.length Xw).2 - 1 - j)) Z else r_add 240 ((r_lp 240 (rs r_22).1 (lf (rs r_22).2) (rs r_22).2.length Xw).1 ((r_lp 240 (rs r_22).1 (lf (rs r_22).2) (rs r_22).2.length Xw).2 - 1 - j)) Z) j (r_nil Xs))) sw swI cI 240 (r_add 240 ((r_lp 240 ((rs r_22).1) (lf (rs r_22).2) ((rs r_22).2.length) Xw).1 ((r_lp 240 (rs r_22).1 (lf (rs r_22).2) (rs r_22).2.length Xw).2 - j - 1)) (itN (fun j Z => if (rs r_22).1 = 0 then r_uni 240 ((r_lp 240 (rs r_22).1 (lf (rs r_22).2) (rs r_22).2.length Xw).1 ((r_lp 240 (rs r_22).1 (lf (rs r_22).2) (rs r_22).2.length Xw).2 - 1 - j)) Z else r_add 240 ((r_lp 240 (rs r_22).1 (lf (rs r_22).2) (rs r_22).2.length Xw).1 ((r_lp 240 (rs r_22).1 (lf (rs r_22).2) (rs r_22).2.length Xw).2 - 1 - j)) Z) j (r_nil Xs)))) sw swI cI 240 (r_add 240 ((r_lp 240 ((rs r_22).1) (lf (rs r_22).2) ((rs r_22).2.length) Xw).1 ((r_lp 240 (rs r_22).1 (lf (rs r_22).2) (rs r_22).2.length Xw).2 - j - 1)) (itN (fun j Z => if (rs r_22).1 = 0 then r_uni 240 ((r_lp 240 (rs r_22).1 (lf (rs r_22).2) (rs r_22).2.length Xw).1 ((r_lp 240 (rs r_22).1 (lf (rs r_22).2) (rs r_22).2.length Xw).2 - 1 - j)) Z else r_add 240 ((r_lp 240 (rs r_22).1 (lf (rs r_22).2) (rs r_22).2.length Xw).1 ((r_lp 240 (rs r_22).1 (lf (rs r_22).2) (rs r_22).2.length Xw).2 - 1 - j)) Z) j (r_nil Xs))) := rowSet_at hXs.ne (r_add_le hXs.2.2.1) (by omega)
              have hC := hC.second (r_add 240 ((r_lp 240 ((rs r_22).1) (lf (rs r_22).2) ((rs r_22).2.length) Xw).1 ((r_lp 240 (rs r_22).1 (lf (rs r_22).2) (rs r_22).2.length Xw).2 - j - 1)) (itN (fun j Z => if (rs r_22).1 = 0 then r_uni 240 ((r_lp 240 (rs r_22).1 (lf (rs r_22).2) (rs r_22).2.length Xw).1 ((r_lp 240 (rs r_22).1 (lf (rs r_22).2) (rs r_22).2.length Xw).2 - 1 - j)) Z else r_add 240 ((r_lp 240 (rs r_22).1 (lf (rs r_22).2) (rs r_22).2.length Xw).1 ((r_lp 240 (rs r_22).1 (lf (rs r_22).2) (rs r_22).2.length Xw).2 - 1 - j)) Z) j (r_nil Xs))) hXs.2.2.1
              have hXc_119 := hXs.2.2.1
              refine lv_iinc (v := nI ((r_lp 240 (rs r_22).1 (lf (rs r_22).2) (rs r_22).2.length Xw).2 - (j + 1)) - 1) (lv' := [(4, .int (nI ((r_lp 240 (rs r_22).1 (lf (rs r_22).2) (rs r_22).2.length Xw).2 - (j + 1)) - 1)), (0, .ref o), (1, .int (nI tN)), (2, .int (nI uN)), (3, .ref (aT r_22))]) hx hb dX2_back_122 hl (k := 4) rfl (by rw [nI_dec, show (r_lp 240 (rs r_22).1 (lf (rs r_22).2) (rs r_22).2.length Xw).2 - j - 1 = (r_lp 240 (rs r_22).1 (lf (rs r_22).2) (rs r_22).2.length Xw).2 - (j + 1) by omega]) (by decide) rfl (fun ls hl => ?_)
              refine lv_goto (tgt := 60) hx hb dX2_back_125 (by decide) ?_
              rw [rowSet_twice] at hW
              exact ih (j + 1) H locs ls ⟨(by omega), (by rw [show itN (fun j Z => if (rs r_22).1 = 0 then r_uni 240 ((r_lp 240 (rs r_22).1 (lf (rs r_22).2) (rs r_22).2.length Xw).1 ((r_lp 240 (rs r_22).1 (lf (rs r_22).2) (rs r_22).2.length Xw).2 - 1 - j)) Z else r_add 240 ((r_lp 240 (rs r_22).1 (lf (rs r_22).2) (rs r_22).2.length Xw).1 ((r_lp 240 (rs r_22).1 (lf (rs r_22).2) (rs r_22).2.length Xw).2 - 1 - j)) Z) (j + 1) (r_nil Xs) = r_add 240 ((r_lp 240 ((rs r_22).1) (lf (rs r_22).2) ((rs r_22).2.length) Xw).1 ((r_lp 240 (rs r_22).1 (lf (rs r_22).2) (rs r_22).2.length Xw).2 - j - 1)) (itN (fun j Z => if (rs r_22).1 = 0 then r_uni 240 ((r_lp 240 (rs r_22).1 (lf (rs r_22).2) (rs r_22).2.length Xw).1 ((r_lp 240 (rs r_22).1 (lf (rs r_22).2) (rs r_22).2.length Xw).2 - 1 - j)) Z else r_add 240 ((r_lp 240 (rs r_22).1 (lf (rs r_22).2) (rs r_22).2.length Xw).1 ((r_lp 240 (rs r_22).1 (lf (rs r_22).2) (rs r_22).2.length Xw).2 - 1 - j)) Z) j (r_nil Xs)) from by (show (if (rs r_22).1 = 0 then _ else _) = _; rw [if_neg c_82, show (r_lp 240 (rs r_22).1 (lf (rs r_22).2) (rs r_22).2.length Xw).2 - 1 - j = (r_lp 240 (rs r_22).1 (lf (rs r_22).2) (rs r_22).2.length Xw).2 - j - 1 by omega])]; exact hW), hS, (lv_sub hl [1, 2, 3, 4, 0] rfl)⟩ (by omega)
            ·
              refine lv_aload_n hx hb dX2_back_85 rfl (lv_at hl 0 rfl) ?_
              refine wd_get (ci := 2) (v := .ref sw) (C := RX2) (T := TX2) (N := 8) hx hb hts (by decide +kernel) hown hK.1 hW hC.1 rfl 5 (by decide) (hts (.fieldLink RX2 34 "CharRows" "secondWork" "LCharRows$Row;") (by decide +kernel)) (fun _ h9 => h9) rfl dX2_back_86 ?_
              refine lv_aload_n hx hb dX2_back_89 rfl (lv_at hl 0 rfl) ?_
              refine wd_get (ci := 2) (v := .ref wk) (C := RX2) (T := TX2) (N := 8) hx hb hts (by decide +kernel) hown hK.1 hW hC.1 rfl 4 (by decide) (hts (.fieldLink RX2 31 "CharRows" "work" "LCharRows$Row;") (by decide +kernel)) (fun _ h9 => h9) rfl dX2_back_90 ?_
              refine wd_get (ci := 0) (v := .ref wkI) (C := RX0) (T := TX0) (N := 2) hx hb hts (by decide +kernel) hown hK.1 hW hXw.1 rfl 0 (by decide) (hts (.fieldLink RX2 74 "CharRows$Row" "items" "[I") (by decide +kernel)) (fun _ h9 => h9) rfl dX2_back_93 ?_
              refine lv_iload hx hb dX2_back_96 (lv_at hl 4 rfl) ?_
              refine wd_iald hx hb hK.1 hW 0 hXw.2.1 rfl (vp_in_nI (by omega) (by omega)) dX2_back_98 ?_
              refine wd_topE (y := (r_lp 240 ((rs r_22).1) (lf (rs r_22).2) ((rs r_22).2.length) Xw).1 ((r_lp 240 (rs r_22).1 (lf (rs r_22).2) (rs r_22).2.length Xw).2 - j - 1)) (by rw [nI_clamp (by omega)]) ?_
              refine wd_callVv (As := [.int ((r_lp 240 ((rs r_22).1) (lf (rs r_22).2) ((rs r_22).2.length) Xw).1 ((r_lp 240 (rs r_22).1 (lf (rs r_22).2) (rs r_22).2.length Xw).2 - j - 1))]) (rest := []) (c2 := 0) (s2 := 0) ⟨hx, hb, hml, hown, hts⟩ (k_X0_addUnitsOf l D cI cT (rowSet (rowSet (rowSet w wk wkI cI 240 (r_lp 240 ((rs r_22).1) (lf (rs r_22).2) ((rs r_22).2.length) Xw)) sw swI cI 240 (r_nil Xs)) sw swI cI 240 (itN (fun j Z => if (rs r_22).1 = 0 then r_uni 240 ((r_lp 240 (rs r_22).1 (lf (rs r_22).2) (rs r_22).2.length Xw).1 ((r_lp 240 (rs r_22).1 (lf (rs r_22).2) (rs r_22).2.length Xw).2 - 1 - j)) Z else r_add 240 ((r_lp 240 (rs r_22).1 (lf (rs r_22).2) (rs r_22).2.length Xw).1 ((r_lp 240 (rs r_22).1 (lf (rs r_22).2) (rs r_22).2.length Xw).2 - 1 - j)) Z) j (r_nil Xs))) H.size sw swI 240 (itN (fun j Z => if (rs r_22).1 = 0 then r_uni 240 ((r_lp 240 (rs r_22).1 (lf (rs r_22).2) (rs r_22).2.length Xw).1 ((r_lp 240 (rs r_22).1 (lf (rs r_22).2) (rs r_22).2.length Xw).2 - 1 - j)) Z else r_add 240 ((r_lp 240 (rs r_22).1 (lf (rs r_22).2) (rs r_22).2.length Xw).1 ((r_lp 240 (rs r_22).1 (lf (rs r_22).2) (rs r_22).2.length Xw).2 - 1 - j)) Z) j (r_nil Xs)) ((r_lp 240 ((rs r_22).1) (lf (rs r_22).2) ((rs r_22).2.length) Xw).1 ((r_lp 240 (rs r_22).1 (lf (rs r_22).2) (rs r_22).2.length Xw).2 - j - 1)) hXs) (cwV 1 hts gX2_back_X0_addUnitsOf rfl rfl rfl (by decide +kernel) ⟨Nat.le_of_ble_eq_true rfl, Nat.le_of_ble_eq_true rfl⟩) gK_ok hK hW (wd_recv (ci := 0) hK.1 hW rfl hXs.1) hS hA rfl hl.1 rfl (Nat.le_of_ble_eq_true rfl) dX2_back_99 ⟨Nat.le_of_ble_eq_true rfl, Nat.le_of_ble_eq_true rfl⟩ rfl rfl (fun w_99 H locs hp_99 hW hz hS => ?_)
              subst w_99
              have hXw := hC.kSW (Y := r_uni 240 ((r_lp 240 ((rs r_22).1) (lf (rs r_22).2) ((rs r_22).2.length) Xw).1 ((r_lp 240 (rs r_22).1 (lf (rs r_22).2) (rs r_22).2.length Xw).2 - j - 1)) (itN (fun j Z => if (rs r_22).1 = 0 then r_uni 240 ((r_lp 240 (rs r_22).1 (lf (rs r_22).2) (rs r_22).2.length Xw).1 ((r_lp 240 (rs r_22).1 (lf (rs r_22).2) (rs r_22).2.length Xw).2 - 1 - j)) Z else r_add 240 ((r_lp 240 (rs r_22).1 (lf (rs r_22).2) (rs r_22).2.length Xw).1 ((r_lp 240 (rs r_22).1 (lf (rs r_22).2) (rs r_22).2.length Xw).2 - 1 - j)) Z) j (r_nil Xs))) hXw
              have hXs : rowAt (rowSet (rowSet (rowSet (rowSet w wk wkI cI 240 (r_lp 240 ((rs r_22).1) (lf (rs r_22).2) ((rs r_22).2.length) Xw)) sw swI cI 240 (r_nil Xs)) sw swI cI 240 (itN (fun j Z => if (rs r_22).1 = 0 then r_uni 240 ((r_lp 240 (rs r_22).1 (lf (rs r_22).2) (rs r_22).2.length Xw).1 ((r_lp 240 (rs r_22).1 (lf (rs r_22).2) (rs r_22).2.length Xw).2 - 1 - j)) Z else r_add 240 ((r_lp 240 (rs r_22).1 (lf (rs r_22).2) (rs r_22).2.length Xw).1 ((r_lp 240 (rs r_22).1 (lf (rs r_22).2) (rs r_22).2.length Xw).2 - 1 - j)) Z) j (r_nil Xs))) sw swI cI 240 (r_uni 240 ((r_lp 240 ((rs r_22).1) (lf (rs r_22).2) ((rs r_22).2.length) Xw).1 ((r_lp 240 (rs r_22).1 (lf (rs r_22).2) (rs r_22).2.length Xw).2 - j - 1)) (itN (fun j Z => if (rs r_22).1 = 0 then r_uni 240 ((r_lp 240 (rs r_22).1 (lf (rs r_22).2) (rs r_22).2.length Xw).1 ((r_lp 240 (rs r_22).1 (lf (rs r_22).2) (rs r_22).2.length Xw).2 - 1 - j)) Z else r_add 240 ((r_lp 240 (rs r_22).1 (lf (rs r_22).2) (rs r_22).2.length Xw).1 ((r_lp 240 (rs r_22).1 (lf (rs r_22).2) (rs r_22).2.length Xw).2 - 1 - j)) Z) j (r_nil Xs)))) sw swI cI 240 (r_uni 240 ((r_lp 240 ((rs r_22).1) (lf (rs r_22).2) ((rs r_22).2.length) Xw).1 ((r_lp 240 (rs r_22).1 (lf (rs r_22).2) (rs r_22).2.length Xw).2 - j - 1)) (itN (fun j Z => if (rs r_22).1 = 0 then r_uni 240 ((r_lp 240 (rs r_22).1 (lf (rs r_22).2) (rs r_22).2.length Xw).1 ((r_lp 240 (rs r_22).1 (lf (rs r_22).2) (rs r_22).2.length Xw).2 - 1 - j)) Z else r_add 240 ((r_lp 240 (rs r_22).1 (lf (rs r_22).2) (rs r_22).2.length Xw).1 ((r_lp 240 (rs r_22).1 (lf (rs r_22).2) (rs r_22).2.length Xw).2 - 1 - j)) Z) j (r_nil Xs))) := rowSet_at hXs.ne (r_uni_le hXs.2.2.1) (by omega)
              have hC := hC.second (r_uni 240 ((r_lp 240 ((rs r_22).1) (lf (rs r_22).2) ((rs r_22).2.length) Xw).1 ((r_lp 240 (rs r_22).1 (lf (rs r_22).2) (rs r_22).2.length Xw).2 - j - 1)) (itN (fun j Z => if (rs r_22).1 = 0 then r_uni 240 ((r_lp 240 (rs r_22).1 (lf (rs r_22).2) (rs r_22).2.length Xw).1 ((r_lp 240 (rs r_22).1 (lf (rs r_22).2) (rs r_22).2.length Xw).2 - 1 - j)) Z else r_add 240 ((r_lp 240 (rs r_22).1 (lf (rs r_22).2) (rs r_22).2.length Xw).1 ((r_lp 240 (rs r_22).1 (lf (rs r_22).2) (rs r_22).2.length Xw).2 - 1 - j)) Z) j (r_nil Xs))) hXs.2.2.1
              have hXc_99 := hXs.2.2.1
              refine lv_goto (tgt := 122) hx hb dX2_back_102 (by decide) ?_
              refine lv_iinc (v := nI ((r_lp 240 (rs r_22).1 (lf (rs r_22).2) (rs r_22).2.length Xw).2 - (j + 1)) - 1) (lv' := [(4, .int (nI ((r_lp 240 (rs r_22).1 (lf (rs r_22).2) (rs r_22).2.length Xw).2 - (j + 1)) - 1)), (0, .ref o), (1, .int (nI tN)), (2, .int (nI uN)), (3, .ref (aT r_22))]) hx hb dX2_back_122 hl (k := 4) rfl (by rw [nI_dec, show (r_lp 240 (rs r_22).1 (lf (rs r_22).2) (rs r_22).2.length Xw).2 - j - 1 = (r_lp 240 (rs r_22).1 (lf (rs r_22).2) (rs r_22).2.length Xw).2 - (j + 1) by omega]) (by decide) rfl (fun ls hl => ?_)
              refine lv_goto (tgt := 60) hx hb dX2_back_125 (by decide) ?_
              rw [rowSet_twice] at hW
              exact ih (j + 1) H locs ls ⟨(by omega), (by rw [show itN (fun j Z => if (rs r_22).1 = 0 then r_uni 240 ((r_lp 240 (rs r_22).1 (lf (rs r_22).2) (rs r_22).2.length Xw).1 ((r_lp 240 (rs r_22).1 (lf (rs r_22).2) (rs r_22).2.length Xw).2 - 1 - j)) Z else r_add 240 ((r_lp 240 (rs r_22).1 (lf (rs r_22).2) (rs r_22).2.length Xw).1 ((r_lp 240 (rs r_22).1 (lf (rs r_22).2) (rs r_22).2.length Xw).2 - 1 - j)) Z) (j + 1) (r_nil Xs) = r_uni 240 ((r_lp 240 ((rs r_22).1) (lf (rs r_22).2) ((rs r_22).2.length) Xw).1 ((r_lp 240 (rs r_22).1 (lf (rs r_22).2) (rs r_22).2.length Xw).2 - j - 1)) (itN (fun j Z => if (rs r_22).1 = 0 then r_uni 240 ((r_lp 240 (rs r_22).1 (lf (rs r_22).2) (rs r_22).2.length Xw).1 ((r_lp 240 (rs r_22).1 (lf (rs r_22).2) (rs r_22).2.length Xw).2 - 1 - j)) Z else r_add 240 ((r_lp 240 (rs r_22).1 (lf (rs r_22).2) (rs r_22).2.length Xw).1 ((r_lp 240 (rs r_22).1 (lf (rs r_22).2) (rs r_22).2.length Xw).2 - 1 - j)) Z) j (r_nil Xs)) from by (show (if (rs r_22).1 = 0 then _ else _) = _; rw [if_pos c_82, show (r_lp 240 (rs r_22).1 (lf (rs r_22).2) (rs r_22).2.length Xw).2 - 1 - j = (r_lp 240 (rs r_22).1 (lf (rs r_22).2) (rs r_22).2.length Xw).2 - j - 1 by omega])]; exact hW), hS, (lv_sub hl [1, 2, 3, 4, 0] rfl)⟩ (by omega)
    ·
      have c_11 := j_bn c_11
      refine lv_ldc (v := (-2000000001)) hx hb hown (hts (.constant RX2 47 (-2000000001)) (by decide +kernel)) dX2_back_14 ?_
      refine W.widen (k := 2) (n := 242) (by omega) (by omega) ?_
      refine wd_iret hx hb hr hlocks hW hS dX2_back_16 ?_
      have e9 : s_back (cd, pl, df, tx, kp, rs) (nI tN) u = ((-2000000001), cd, pl, df, tx, kp, rs) := by simp only [s_back, if_pos (Or.inr c_11), s_w1, s_no, s_mk, hcl_t]
      show _ = (s_back (cd, pl, df, tx, kp, rs) (nI tN) u).1 ∧ InvC cI cT o (s_back (cd, pl, df, tx, kp, rs) (nI tN) u).2 _
      rw [e9]
      exact ⟨rfl, tA, kA, dr, drI, wk, wkI, sw, swI, aT, aI, Xd, hC⟩
set_option maxHeartbeats 4000000 in
set_option maxRecDepth 100000 in
theorem k_X2_copy (l : Launch) (D : va_G) (cI cT : ClassId) (w : Wd) (sz : Nat) (o : Nat) (cd : Int32) (pl : Int32) (df : List Int32) (tx : Nat → Option Nat) (kp : List Nat) (rs : Rws) (x : Int32) (i : Int32) (y : Int32) (j : Int32) (n : Int32) (hwf : WF (cd, pl, df, tx, kp, rs)) (hI : InvC cI cT o (cd, pl, df, tx, kp, rs) w) : wd_Mi l D vwCl (gK D cI cT) yX2_copy wsX2_copy (wd_rm 1 0 0) [.ref o, .int x, .int i, .int y, .int j, .int n] w sz (fun r w' => r = (s_copy (cd, pl, df, tx, kp, rs) x i y j n).1 ∧ InvC cI cT o (s_copy (cd, pl, df, tx, kp, rs) x i y j n).2 w') := by
  refine wd_met (cc := cX2_copy) (maxL := 8) (ret := (some .int)) (by decide) rfl (Nat.le_of_ble_eq_true rfl) ?_
  intro pg ev sg mi bl mt cde ls C0 hsz hK hW hl
  obtain ⟨hx, hb, hr, hml, hown, hts, hlocks, hnm⟩ := C0
  subst hsz
  have hown : sg.vm.findClass RX2 = some mi.cls := hown
  have hS : va_S (wd_A w sg.heap.size) sg.heap sg.heap [] := va_S.rf
  have hA : ∀ q, sg.heap.size ≤ q → wd_A w sg.heap.size q := fun q h => Or.inr h
  have hl : lv_has ls 8 [(0, .ref o), (1, .int x), (2, .int i), (3, .int y), (4, .int j), (5, .int n)] := hl
  obtain ⟨tA, kA, dr, drI, wk, wkI, sw, swI, aT, aI, Xd, hC⟩ := hI
  dsimp only at hC
  obtain ⟨Xw, hXw⟩ := hC.2.2.2.2.1
  obtain ⟨Xs, hXs⟩ := hC.2.2.2.2.2.1
  have hXd1 := hC.2.2.2.1.1.2.2.1
  have hdf := hC.2.2.2.1.2
  have hkp : kp.length ≤ 12 := hwf.2.2.1
  have hdl : df.length = Xd.2 := by rw [← hC.2.2.2.1.2, rl_len]
  have hdg : ∀ j, j < df.length → Xd.1 j = lf df j := fun j hj => by rw [← hdf, lf, rl_getD (by omega)]
  refine lv_iload_n hx hb dX2_copy_0 rfl (lv_at hl 1 rfl) ?_
  refine wd_callSi (As := [.int x]) (rest := []) (c2 := 0) (s2 := 0) ⟨hx, hb, hml, hown, hts⟩ (k_X2_isNoText l D cI cT w sg.heap.size x ) (va_cwS 1 hts gX2_copy_X2_isNoText rfl rfl rfl (by decide +kernel) ⟨Nat.le_of_ble_eq_true rfl, Nat.le_of_ble_eq_true rfl⟩) gK_ok hK hW hS hA rfl hl.1 rfl (Nat.le_of_ble_eq_true rfl) dX2_copy_1 ⟨Nat.le_of_ble_eq_true rfl, Nat.le_of_ble_eq_true rfl⟩ rfl rfl (fun r_1 w_1 H locs hp_1 hW hz hS => ?_)
  obtain ⟨q_r, q_w⟩ := hp_1
  subst r_1
  subst w_1
  refine lv_if_ne (tgt := 14) hx hb dX2_copy_4 (by decide) (fun c_4 => ?_) (fun c_4 => ?_)
  ·
    have c_4 := j_bn c_4
    refine lv_ldc (v := (-2000000001)) hx hb hown (hts (.constant RX2 47 (-2000000001)) (by decide +kernel)) dX2_copy_14 ?_
    refine wd_iret hx hb hr hlocks hW hS dX2_copy_16 ?_
    have e9 : s_copy (cd, pl, df, tx, kp, rs) x i y j n = ((-2000000001), cd, pl, df, tx, kp, rs) := by simp only [s_copy, if_pos (Or.inl c_4), s_w2, s_no, s_rs]
    show _ = (s_copy (cd, pl, df, tx, kp, rs) x i y j n).1 ∧ InvC cI cT o (s_copy (cd, pl, df, tx, kp, rs) x i y j n).2 _
    rw [e9]
    exact ⟨rfl, tA, kA, dr, drI, wk, wkI, sw, swI, aT, aI, Xd, hC⟩
  ·
    have c_4 := j_b0 c_4
    obtain ⟨xN, hxN, hxE⟩ := nt_spec c_4
    subst hxE
    have hcl_x : (nI xN).toNatClampNeg = xN := nI_clamp (by omega)
    refine lv_iload_n hx hb dX2_copy_7 rfl (lv_at hl 3 rfl) ?_
    refine wd_callSi (As := [.int y]) (rest := []) (c2 := 0) (s2 := 0) ⟨hx, hb, hml, hown, hts⟩ (k_X2_isNoText l D cI cT w H.size y ) (va_cwS 1 hts gX2_copy_X2_isNoText rfl rfl rfl (by decide +kernel) ⟨Nat.le_of_ble_eq_true rfl, Nat.le_of_ble_eq_true rfl⟩) gK_ok hK hW hS hA rfl hl.1 rfl (Nat.le_of_ble_eq_true rfl) dX2_copy_8 ⟨Nat.le_of_ble_eq_true rfl, Nat.le_of_ble_eq_true rfl⟩ rfl rfl (fun r_8 w_8 H locs hp_8 hW hz hS => ?_)
    obtain ⟨q_r, q_w⟩ := hp_8
    subst r_8
    subst w_8
    refine lv_if_eq (tgt := 17) hx hb dX2_copy_11 (by decide) (fun c_11 => ?_) (fun c_11 => ?_)
    ·
      have c_11 := j_b0 c_11
      obtain ⟨yN, hyN, hyE⟩ := nt_spec c_11
      subst hyE
      have hcl_y : (nI yN).toNatClampNeg = yN := nI_clamp (by omega)
      refine lv_aload_n hx hb dX2_copy_17 rfl (lv_at hl 0 rfl) ?_
      refine wd_get (ci := 2) (v := .ref tA) (C := RX2) (T := TX2) (N := 8) hx hb hts (by decide +kernel) hown hK.1 hW hC.1 rfl 0 (by decide) (hts (.fieldLink RX2 11 "CharRows" "texts" "[LCharRows$Text;") (by decide +kernel)) (fun _ h9 => h9) rfl dX2_copy_18 ?_
      refine lv_iload_n hx hb dX2_copy_21 rfl (lv_at hl 1 rfl) ?_
      refine wd_aldq hx hb hK.1 hW 1 hC.2.1 rfl (vp_in_nI (by omega) (by omega)) dX2_copy_22 ?_
      rw [nI_clamp (by omega)]
      cases htx_22 : tx xN with
      | none =>
        refine wd_topR (y := .null) (by simp [htx_22, va_rf]) ?_
        refine lv_astoreN (lv' := [(6, .null), (0, .ref o), (1, .int (nI xN)), (2, .int i), (3, .int (nI yN)), (4, .int j), (5, .int n)]) hx hb dX2_copy_23 hl (by decide) rfl (fun ls hl => ?_)
        refine lv_aload_n hx hb dX2_copy_25 rfl (lv_at hl 1 rfl) ?_
        refine wd_get (ci := 2) (v := .ref tA) (C := RX2) (T := TX2) (N := 8) hx hb hts (by decide +kernel) hown hK.1 hW hC.1 rfl 0 (by decide) (hts (.fieldLink RX2 11 "CharRows" "texts" "[LCharRows$Text;") (by decide +kernel)) (fun _ h9 => h9) rfl dX2_copy_26 ?_
        refine lv_iload_n hx hb dX2_copy_29 rfl (lv_at hl 4 rfl) ?_
        refine wd_aldq hx hb hK.1 hW 1 hC.2.1 rfl (vp_in_nI (by omega) (by omega)) dX2_copy_30 ?_
        rw [nI_clamp (by omega)]
        cases htx_30 : tx yN with
        | none =>
          refine wd_topR (y := .null) (by simp [htx_30, va_rf]) ?_
          refine lv_astoreN (lv' := [(7, .null), (6, .null), (0, .ref o), (1, .int (nI xN)), (2, .int i), (3, .int (nI yN)), (4, .int j), (5, .int n)]) hx hb dX2_copy_31 hl (by decide) rfl (fun ls hl => ?_)
          refine lv_aloadN hx hb dX2_copy_33 (lv_at hl 1 rfl) ?_
          refine lv_ifnullN (tgt := 43) hx hb dX2_copy_35 (by decide) ?_
          refine lv_aload_n hx hb dX2_copy_43 rfl (lv_at hl 2 rfl) ?_
          refine lv_iconst (v := 1) hx hb dX2_copy_44 (by decide) ?_
          refine wd_callVi (As := [.int 1]) (rest := []) (c2 := 0) (s2 := 0) ⟨hx, hb, hml, hown, hts⟩ (k_X2_refuse l D cI cT w H.size o tA kA (nI kp.length) dr wk sw cd pl 1 hC.1) (cwV 1 hts gX2_copy_X2_refuse rfl rfl rfl (by decide +kernel) ⟨Nat.le_of_ble_eq_true rfl, Nat.le_of_ble_eq_true rfl⟩) gK_ok hK hW (wd_recv (ci := 2) hK.1 hW rfl hC.1) hS hA rfl hl.1 rfl (Nat.le_of_ble_eq_true rfl) dX2_copy_45 ⟨Nat.le_of_ble_eq_true rfl, Nat.le_of_ble_eq_true rfl⟩ rfl rfl (fun r_45 w_45 H locs hp_45 hW hz hS => ?_)
          obtain ⟨q_r, q_w⟩ := hp_45
          subst r_45
          subst w_45
          have hC := hC.obj 1 pl
          refine wd_iret hx hb hr hlocks hW hS dX2_copy_48 ?_
          have e9 : s_copy (cd, pl, df, tx, kp, rs) (nI xN) i (nI yN) j n = (0, 1, pl, df, tx, kp, rs) := by simp only [s_copy, if_neg (not_or.mpr ⟨c_4, c_11⟩), s_w2, s_no, s_rs, hcl_x, hcl_y, htx_22, htx_30]
          show _ = (s_copy (cd, pl, df, tx, kp, rs) (nI xN) i (nI yN) j n).1 ∧ InvC cI cT o (s_copy (cd, pl, df, tx, kp, rs) (nI xN) i (nI yN) j n).2 _
          rw [e9]
          exact ⟨rfl, tA, kA, dr, drI, wk, wkI, sw, swI, aT, aI, Xd, hC⟩
        | some r_30 =>
          refine wd_topR (y := .ref (aT r_30)) (by simp [htx_30, va_rf]) ?_
          have hl_30 : live tx kp r_30 := Or.inl ⟨_, htx_30⟩
          have hok_30 : rOK (rs r_30) := (hwf.2.2.2.1 r_30 hl_30).2
          have hlen_30 := hok_30.len
          refine lv_astore (lv' := [(7, .ref (aT r_30)), (6, .null), (0, .ref o), (1, .int (nI xN)), (2, .int i), (3, .int (nI yN)), (4, .int j), (5, .int n)]) hx hb dX2_copy_31 hl (by decide) rfl (fun ls hl => ?_)
          refine lv_aloadN hx hb dX2_copy_33 (lv_at hl 1 rfl) ?_
          refine lv_ifnullN (tgt := 43) hx hb dX2_copy_35 (by decide) ?_
          refine lv_aload_n hx hb dX2_copy_43 rfl (lv_at hl 2 rfl) ?_
          refine lv_iconst (v := 1) hx hb dX2_copy_44 (by decide) ?_
          refine wd_callVi (As := [.int 1]) (rest := []) (c2 := 0) (s2 := 0) ⟨hx, hb, hml, hown, hts⟩ (k_X2_refuse l D cI cT w H.size o tA kA (nI kp.length) dr wk sw cd pl 1 hC.1) (cwV 1 hts gX2_copy_X2_refuse rfl rfl rfl (by decide +kernel) ⟨Nat.le_of_ble_eq_true rfl, Nat.le_of_ble_eq_true rfl⟩) gK_ok hK hW (wd_recv (ci := 2) hK.1 hW rfl hC.1) hS hA rfl hl.1 rfl (Nat.le_of_ble_eq_true rfl) dX2_copy_45 ⟨Nat.le_of_ble_eq_true rfl, Nat.le_of_ble_eq_true rfl⟩ rfl rfl (fun r_45 w_45 H locs hp_45 hW hz hS => ?_)
          obtain ⟨q_r, q_w⟩ := hp_45
          subst r_45
          subst w_45
          have hC := hC.obj 1 pl
          refine wd_iret hx hb hr hlocks hW hS dX2_copy_48 ?_
          have e9 : s_copy (cd, pl, df, tx, kp, rs) (nI xN) i (nI yN) j n = (0, 1, pl, df, tx, kp, rs) := by simp only [s_copy, if_neg (not_or.mpr ⟨c_4, c_11⟩), s_w2, s_no, s_rs, hcl_x, hcl_y, htx_22, htx_30]
          show _ = (s_copy (cd, pl, df, tx, kp, rs) (nI xN) i (nI yN) j n).1 ∧ InvC cI cT o (s_copy (cd, pl, df, tx, kp, rs) (nI xN) i (nI yN) j n).2 _
          rw [e9]
          exact ⟨rfl, tA, kA, dr, drI, wk, wkI, sw, swI, aT, aI, Xd, hC⟩
      | some r_22 =>
        refine wd_topR (y := .ref (aT r_22)) (by simp [htx_22, va_rf]) ?_
        have hl_22 : live tx kp r_22 := Or.inl ⟨_, htx_22⟩
        have hok_22 : rOK (rs r_22) := (hwf.2.2.2.1 r_22 hl_22).2
        have hlen_22 := hok_22.len
        refine lv_astore (lv' := [(6, .ref (aT r_22)), (0, .ref o), (1, .int (nI xN)), (2, .int i), (3, .int (nI yN)), (4, .int j), (5, .int n)]) hx hb dX2_copy_23 hl (by decide) rfl (fun ls hl => ?_)
        refine lv_aload_n hx hb dX2_copy_25 rfl (lv_at hl 1 rfl) ?_
        refine wd_get (ci := 2) (v := .ref tA) (C := RX2) (T := TX2) (N := 8) hx hb hts (by decide +kernel) hown hK.1 hW hC.1 rfl 0 (by decide) (hts (.fieldLink RX2 11 "CharRows" "texts" "[LCharRows$Text;") (by decide +kernel)) (fun _ h9 => h9) rfl dX2_copy_26 ?_
        refine lv_iload_n hx hb dX2_copy_29 rfl (lv_at hl 4 rfl) ?_
        refine wd_aldq hx hb hK.1 hW 1 hC.2.1 rfl (vp_in_nI (by omega) (by omega)) dX2_copy_30 ?_
        rw [nI_clamp (by omega)]
        cases htx_30 : tx yN with
        | none =>
          refine wd_topR (y := .null) (by simp [htx_30, va_rf]) ?_
          refine lv_astoreN (lv' := [(7, .null), (6, .ref (aT r_22)), (0, .ref o), (1, .int (nI xN)), (2, .int i), (3, .int (nI yN)), (4, .int j), (5, .int n)]) hx hb dX2_copy_31 hl (by decide) rfl (fun ls hl => ?_)
          refine lv_aload hx hb dX2_copy_33 (lv_at hl 1 rfl) ?_
          refine lv_ifnull hx hb dX2_copy_35 ?_
          refine lv_aloadN hx hb dX2_copy_38 (lv_at hl 0 rfl) ?_
          refine lv_ifnonnullN hx hb dX2_copy_40 ?_
          refine lv_aload_n hx hb dX2_copy_43 rfl (lv_at hl 2 rfl) ?_
          refine lv_iconst (v := 1) hx hb dX2_copy_44 (by decide) ?_
          refine wd_callVi (As := [.int 1]) (rest := []) (c2 := 0) (s2 := 0) ⟨hx, hb, hml, hown, hts⟩ (k_X2_refuse l D cI cT w H.size o tA kA (nI kp.length) dr wk sw cd pl 1 hC.1) (cwV 1 hts gX2_copy_X2_refuse rfl rfl rfl (by decide +kernel) ⟨Nat.le_of_ble_eq_true rfl, Nat.le_of_ble_eq_true rfl⟩) gK_ok hK hW (wd_recv (ci := 2) hK.1 hW rfl hC.1) hS hA rfl hl.1 rfl (Nat.le_of_ble_eq_true rfl) dX2_copy_45 ⟨Nat.le_of_ble_eq_true rfl, Nat.le_of_ble_eq_true rfl⟩ rfl rfl (fun r_45 w_45 H locs hp_45 hW hz hS => ?_)
          obtain ⟨q_r, q_w⟩ := hp_45
          subst r_45
          subst w_45
          have hC := hC.obj 1 pl
          refine wd_iret hx hb hr hlocks hW hS dX2_copy_48 ?_
          have e9 : s_copy (cd, pl, df, tx, kp, rs) (nI xN) i (nI yN) j n = (0, 1, pl, df, tx, kp, rs) := by simp only [s_copy, if_neg (not_or.mpr ⟨c_4, c_11⟩), s_w2, s_no, s_rs, hcl_x, hcl_y, htx_22, htx_30]
          show _ = (s_copy (cd, pl, df, tx, kp, rs) (nI xN) i (nI yN) j n).1 ∧ InvC cI cT o (s_copy (cd, pl, df, tx, kp, rs) (nI xN) i (nI yN) j n).2 _
          rw [e9]
          exact ⟨rfl, tA, kA, dr, drI, wk, wkI, sw, swI, aT, aI, Xd, hC⟩
        | some r_30 =>
          refine wd_topR (y := .ref (aT r_30)) (by simp [htx_30, va_rf]) ?_
          have hl_30 : live tx kp r_30 := Or.inl ⟨_, htx_30⟩
          have hok_30 : rOK (rs r_30) := (hwf.2.2.2.1 r_30 hl_30).2
          have hlen_30 := hok_30.len
          refine lv_astore (lv' := [(7, .ref (aT r_30)), (6, .ref (aT r_22)), (0, .ref o), (1, .int (nI xN)), (2, .int i), (3, .int (nI yN)), (4, .int j), (5, .int n)]) hx hb dX2_copy_31 hl (by decide) rfl (fun ls hl => ?_)
          refine lv_aload hx hb dX2_copy_33 (lv_at hl 1 rfl) ?_
          refine lv_ifnull hx hb dX2_copy_35 ?_
          refine lv_aload hx hb dX2_copy_38 (lv_at hl 0 rfl) ?_
          refine lv_ifnonnull (tgt := 49) hx hb dX2_copy_40 (by decide) ?_
          refine lv_aload hx hb dX2_copy_49 (lv_at hl 1 rfl) ?_
          refine wd_get (ci := 1) (v := .int ((rs r_22).1)) (C := RX1) (T := TX1) (N := 2) hx hb hts (by decide +kernel) hown hK.1 hW (hC.2.2.2.2.2.2.2.1 r_22 hl_22).1 rfl 0 (by decide) (hts (.fieldLink RX2 94 "CharRows$Text" "kindOfItems" "I") (by decide +kernel)) (fun _ h9 => h9) rfl dX2_copy_51 ?_
          refine lv_iconst (v := 1) hx hb dX2_copy_54 (by decide) ?_
          refine lv_icmp_eq (tgt := 71) hx hb dX2_copy_55 (by decide) (fun c_55 => ?_) (fun c_55 => ?_)
          ·
            refine lv_aload_n hx hb dX2_copy_71 rfl (lv_at hl 2 rfl) ?_
            refine lv_iconst (v := 2) hx hb dX2_copy_72 (by decide) ?_
            refine wd_callVi (As := [.int 2]) (rest := []) (c2 := 0) (s2 := 0) ⟨hx, hb, hml, hown, hts⟩ (k_X2_refuse l D cI cT w H.size o tA kA (nI kp.length) dr wk sw cd pl 2 hC.1) (cwV 1 hts gX2_copy_X2_refuse rfl rfl rfl (by decide +kernel) ⟨Nat.le_of_ble_eq_true rfl, Nat.le_of_ble_eq_true rfl⟩) gK_ok hK hW (wd_recv (ci := 2) hK.1 hW rfl hC.1) hS hA rfl hl.1 rfl (Nat.le_of_ble_eq_true rfl) dX2_copy_73 ⟨Nat.le_of_ble_eq_true rfl, Nat.le_of_ble_eq_true rfl⟩ rfl rfl (fun r_73 w_73 H locs hp_73 hW hz hS => ?_)
            obtain ⟨q_r, q_w⟩ := hp_73
            subst r_73
            subst w_73
            have hC := hC.obj 2 pl
            refine wd_iret hx hb hr hlocks hW hS dX2_copy_76 ?_
            have e9 : s_copy (cd, pl, df, tx, kp, rs) (nI xN) i (nI yN) j n = (0, 2, pl, df, tx, kp, rs) := by simp only [s_copy, if_neg (not_or.mpr ⟨c_4, c_11⟩), s_w2, s_no, s_rs, if_pos (Or.inl c_55), hcl_x, hcl_y, htx_22, htx_30]
            show _ = (s_copy (cd, pl, df, tx, kp, rs) (nI xN) i (nI yN) j n).1 ∧ InvC cI cT o (s_copy (cd, pl, df, tx, kp, rs) (nI xN) i (nI yN) j n).2 _
            rw [e9]
            exact ⟨rfl, tA, kA, dr, drI, wk, wkI, sw, swI, aT, aI, Xd, hC⟩
          ·
            refine lv_aload hx hb dX2_copy_58 (lv_at hl 1 rfl) ?_
            refine wd_get (ci := 1) (v := .int ((rs r_22).1)) (C := RX1) (T := TX1) (N := 2) hx hb hts (by decide +kernel) hown hK.1 hW (hC.2.2.2.2.2.2.2.1 r_22 hl_22).1 rfl 0 (by decide) (hts (.fieldLink RX2 94 "CharRows$Text" "kindOfItems" "I") (by decide +kernel)) (fun _ h9 => h9) rfl dX2_copy_60 ?_
            refine lv_aload hx hb dX2_copy_63 (lv_at hl 0 rfl) ?_
            refine wd_get (ci := 1) (v := .int ((rs r_30).1)) (C := RX1) (T := TX1) (N := 2) hx hb hts (by decide +kernel) hown hK.1 hW (hC.2.2.2.2.2.2.2.1 r_30 hl_30).1 rfl 0 (by decide) (hts (.fieldLink RX2 94 "CharRows$Text" "kindOfItems" "I") (by decide +kernel)) (fun _ h9 => h9) rfl dX2_copy_65 ?_
            refine lv_icmp_eq (tgt := 77) hx hb dX2_copy_68 (by decide) (fun c_68 => ?_) (fun c_68 => ?_)
            ·
              refine lv_aload hx hb dX2_copy_77 (lv_at hl 1 rfl) ?_
              refine lv_iload_n hx hb dX2_copy_79 rfl (lv_at hl 4 rfl) ?_
              refine lv_iload hx hb dX2_copy_80 (lv_at hl 7 rfl) ?_
              refine wd_callSi (As := [.ref (aT r_22), .int i, .int n]) (rest := []) (c2 := 0) (s2 := 0) ⟨hx, hb, hml, hown, hts⟩ (k_X2_isBeyond l D cI cT w H.size (aT r_22) (aI r_22) ((rs r_22).1) ((rs r_22).2.length) (lf (rs r_22).2) i n (⟨(hC.2.2.2.2.2.2.2.1 r_22 hl_22).1, (hC.2.2.2.2.2.2.2.1 r_22 hl_22).2.1, by omega⟩)) (va_cwS 3 hts gX2_copy_X2_isBeyond rfl rfl rfl (by decide +kernel) ⟨Nat.le_of_ble_eq_true rfl, Nat.le_of_ble_eq_true rfl⟩) gK_ok hK hW hS hA rfl hl.1 rfl (Nat.le_of_ble_eq_true rfl) dX2_copy_82 ⟨Nat.le_of_ble_eq_true rfl, Nat.le_of_ble_eq_true rfl⟩ rfl rfl (fun r_82 w_82 H locs hp_82 hW hz hS => ?_)
              obtain ⟨q_r, q_w⟩ := hp_82
              subst r_82
              subst w_82
              refine lv_if_ne (tgt := 100) hx hb dX2_copy_85 (by decide) (fun c_85 => ?_) (fun c_85 => ?_)
              ·
                have c_85 := j_bn c_85
                refine lv_aload_n hx hb dX2_copy_100 rfl (lv_at hl 2 rfl) ?_
                refine lv_iconst (v := 3) hx hb dX2_copy_101 (by decide) ?_
                refine wd_callVi (As := [.int 3]) (rest := []) (c2 := 0) (s2 := 0) ⟨hx, hb, hml, hown, hts⟩ (k_X2_refuse l D cI cT w H.size o tA kA (nI kp.length) dr wk sw cd pl 3 hC.1) (cwV 1 hts gX2_copy_X2_refuse rfl rfl rfl (by decide +kernel) ⟨Nat.le_of_ble_eq_true rfl, Nat.le_of_ble_eq_true rfl⟩) gK_ok hK hW (wd_recv (ci := 2) hK.1 hW rfl hC.1) hS hA rfl hl.1 rfl (Nat.le_of_ble_eq_true rfl) dX2_copy_102 ⟨Nat.le_of_ble_eq_true rfl, Nat.le_of_ble_eq_true rfl⟩ rfl rfl (fun r_102 w_102 H locs hp_102 hW hz hS => ?_)
                obtain ⟨q_r, q_w⟩ := hp_102
                subst r_102
                subst w_102
                have hC := hC.obj 3 pl
                refine wd_iret hx hb hr hlocks hW hS dX2_copy_105 ?_
                have e9 : s_copy (cd, pl, df, tx, kp, rs) (nI xN) i (nI yN) j n = (0, 3, pl, df, tx, kp, rs) := by simp only [s_copy, if_neg (not_or.mpr ⟨c_4, c_11⟩), s_w2, s_no, s_rs, if_neg (not_or.mpr ⟨c_55, not_not_intro c_68⟩), if_pos (Or.inl ((beyond_iff (by omega)).mp c_85)), hcl_x, hcl_y, htx_22, htx_30]
                show _ = (s_copy (cd, pl, df, tx, kp, rs) (nI xN) i (nI yN) j n).1 ∧ InvC cI cT o (s_copy (cd, pl, df, tx, kp, rs) (nI xN) i (nI yN) j n).2 _
                rw [e9]
                exact ⟨rfl, tA, kA, dr, drI, wk, wkI, sw, swI, aT, aI, Xd, hC⟩
              ·
                have c_85 := j_b0 c_85
                obtain ⟨nN, hnN, hnE⟩ := j_beyond_n c_85
                subst hnE
                have hcl_n : (nI nN).toNatClampNeg = nN := nI_clamp (by omega)
                obtain ⟨iN, hiE, hiN⟩ := j_beyond_spec2 (by omega) hnN c_85
                subst hiE
                have hcl_i : (nI iN).toNatClampNeg = iN := nI_clamp (by omega)
                refine lv_aload hx hb dX2_copy_88 (lv_at hl 0 rfl) ?_
                refine lv_iload hx hb dX2_copy_90 (lv_at hl 6 rfl) ?_
                refine lv_iload hx hb dX2_copy_92 (lv_at hl 7 rfl) ?_
                refine wd_callSi (As := [.ref (aT r_30), .int j, .int (nI nN)]) (rest := []) (c2 := 0) (s2 := 0) ⟨hx, hb, hml, hown, hts⟩ (k_X2_isBeyond l D cI cT w H.size (aT r_30) (aI r_30) ((rs r_30).1) ((rs r_30).2.length) (lf (rs r_30).2) j (nI nN) (⟨(hC.2.2.2.2.2.2.2.1 r_30 hl_30).1, (hC.2.2.2.2.2.2.2.1 r_30 hl_30).2.1, by omega⟩)) (va_cwS 3 hts gX2_copy_X2_isBeyond rfl rfl rfl (by decide +kernel) ⟨Nat.le_of_ble_eq_true rfl, Nat.le_of_ble_eq_true rfl⟩) gK_ok hK hW hS hA rfl hl.1 rfl (Nat.le_of_ble_eq_true rfl) dX2_copy_94 ⟨Nat.le_of_ble_eq_true rfl, Nat.le_of_ble_eq_true rfl⟩ rfl rfl (fun r_94 w_94 H locs hp_94 hW hz hS => ?_)
                obtain ⟨q_r, q_w⟩ := hp_94
                subst r_94
                subst w_94
                refine lv_if_eq (tgt := 106) hx hb dX2_copy_97 (by decide) (fun c_97 => ?_) (fun c_97 => ?_)
                ·
                  have c_97 := j_b0 c_97
                  obtain ⟨jN, hjE, hjN⟩ := j_beyond_spec2 (by omega) hnN c_97
                  subst hjE
                  have hcl_j : (nI jN).toNatClampNeg = jN := nI_clamp (by omega)
                  refine lv_aload hx hb dX2_copy_106 (lv_at hl 1 rfl) ?_
                  refine wd_get (ci := 1) (v := .ref (aI r_22)) (C := RX1) (T := TX1) (N := 2) hx hb hts (by decide +kernel) hown hK.1 hW (hC.2.2.2.2.2.2.2.1 r_22 hl_22).1 rfl 1 (by decide) (hts (.fieldLink RX2 93 "CharRows$Text" "items" "[I") (by decide +kernel)) (fun _ h9 => h9) rfl dX2_copy_108 ?_
                  refine lv_iload_n hx hb dX2_copy_111 rfl (lv_at hl 4 rfl) ?_
                  refine lv_aload hx hb dX2_copy_112 (lv_at hl 0 rfl) ?_
                  refine wd_get (ci := 1) (v := .ref (aI r_30)) (C := RX1) (T := TX1) (N := 2) hx hb hts (by decide +kernel) hown hK.1 hW (hC.2.2.2.2.2.2.2.1 r_30 hl_30).1 rfl 1 (by decide) (hts (.fieldLink RX2 93 "CharRows$Text" "items" "[I") (by decide +kernel)) (fun _ h9 => h9) rfl dX2_copy_114 ?_
                  refine lv_iload hx hb dX2_copy_117 (lv_at hl 6 rfl) ?_
                  refine lv_iload hx hb dX2_copy_119 (lv_at hl 7 rfl) ?_
                  refine wd_copyi (rest := []) hx hb (by rw [hml]; exact hl.1.symm) hown (hts (.methodLink RX2 144 arraycopyName) (by decide +kernel)) (hts (.native arraycopyName) (by decide +kernel)) (hts (.static arraycopyName) (by decide +kernel)) (hts (.initialized "java/lang/System") (by decide +kernel)) hK.1 hW hS 0 0 (hC.2.2.2.2.2.2.2.1 r_22 hl_22).2.1 (hC.2.2.2.2.2.2.2.1 r_30 hl_30).2.1 rfl rfl (nI_pos (by omega)) (nI_pos (by omega)) (nI_pos (by omega)) (by rw [hcl_i, hcl_n]; omega) (by rw [hcl_j, hcl_n]; omega) (Nat.le_of_ble_eq_true rfl) (Nat.le_of_ble_eq_true rfl) dX2_copy_121 (fun H locs hW hS => ?_)
                  rw [hcl_i, hcl_j, hcl_n, e_list_cpy (by omega) (by omega)] at hW
                  have hC := hC.items hl_30 ((rs r_30).2.take jN ++ (((rs r_22).2.drop iN).take nN ++ (rs r_30).2.drop (jN + nN)))
                  refine lv_aload_n hx hb dX2_copy_124 rfl (lv_at hl 2 rfl) ?_
                  refine lv_iload hx hb dX2_copy_125 (lv_at hl 7 rfl) ?_
                  refine wd_callVi (As := [.int (nI nN)]) (rest := []) (c2 := 0) (s2 := 0) ⟨hx, hb, hml, hown, hts⟩ (k_X2_done l D cI cT (wd_up w (aI r_30) (e_list cI ((rs r_30).2.take jN ++ (((rs r_22).2.drop iN).take nN ++ (rs r_30).2.drop (jN + nN))))) H.size o tA kA (nI kp.length) dr wk sw cd pl (nI nN) hC.1) (cwV 1 hts gX2_copy_X2_done rfl rfl rfl (by decide +kernel) ⟨Nat.le_of_ble_eq_true rfl, Nat.le_of_ble_eq_true rfl⟩) gK_ok hK hW (wd_recv (ci := 2) hK.1 hW rfl hC.1) hS hA rfl hl.1 rfl (Nat.le_of_ble_eq_true rfl) dX2_copy_127 ⟨Nat.le_of_ble_eq_true rfl, Nat.le_of_ble_eq_true rfl⟩ rfl rfl (fun r_127 w_127 H locs hp_127 hW hz hS => ?_)
                  obtain ⟨q_r, q_w⟩ := hp_127
                  subst r_127
                  subst w_127
                  have hC := hC.obj 0 pl
                  refine wd_iret hx hb hr hlocks hW hS dX2_copy_130 ?_
                  have e9 : s_copy (cd, pl, df, tx, kp, rs) (nI xN) (nI iN) (nI yN) (nI jN) (nI nN) = (nI nN, 0, pl, df, tx, kp, (va_up rs r_30 ((rs r_30).1, ((rs r_30).2.take jN ++ (((rs r_22).2.drop iN).take nN ++ (rs r_30).2.drop (jN + nN)))))) := by simp only [s_copy, if_neg (not_or.mpr ⟨c_4, c_11⟩), s_w2, s_no, s_rs, if_neg (not_or.mpr ⟨c_55, not_not_intro c_68⟩), if_neg (not_or.mpr ⟨(bey_no (len := (rs r_22).2.length) (i := iN) (n := nN) (by omega) (by omega) (by omega)), (bey_no (len := (rs r_30).2.length) (i := jN) (n := nN) (by omega) (by omega) (by omega))⟩), hcl_x, hcl_y, hcl_n, hcl_i, hcl_j, htx_22, htx_30]
                  show _ = (s_copy (cd, pl, df, tx, kp, rs) (nI xN) (nI iN) (nI yN) (nI jN) (nI nN)).1 ∧ InvC cI cT o (s_copy (cd, pl, df, tx, kp, rs) (nI xN) (nI iN) (nI yN) (nI jN) (nI nN)).2 _
                  rw [e9]
                  exact ⟨rfl, tA, kA, dr, drI, wk, wkI, sw, swI, aT, aI, Xd, hC⟩
                ·
                  have c_97 := j_bn c_97
                  refine lv_aload_n hx hb dX2_copy_100 rfl (lv_at hl 2 rfl) ?_
                  refine lv_iconst (v := 3) hx hb dX2_copy_101 (by decide) ?_
                  refine wd_callVi (As := [.int 3]) (rest := []) (c2 := 0) (s2 := 0) ⟨hx, hb, hml, hown, hts⟩ (k_X2_refuse l D cI cT w H.size o tA kA (nI kp.length) dr wk sw cd pl 3 hC.1) (cwV 1 hts gX2_copy_X2_refuse rfl rfl rfl (by decide +kernel) ⟨Nat.le_of_ble_eq_true rfl, Nat.le_of_ble_eq_true rfl⟩) gK_ok hK hW (wd_recv (ci := 2) hK.1 hW rfl hC.1) hS hA rfl hl.1 rfl (Nat.le_of_ble_eq_true rfl) dX2_copy_102 ⟨Nat.le_of_ble_eq_true rfl, Nat.le_of_ble_eq_true rfl⟩ rfl rfl (fun r_102 w_102 H locs hp_102 hW hz hS => ?_)
                  obtain ⟨q_r, q_w⟩ := hp_102
                  subst r_102
                  subst w_102
                  have hC := hC.obj 3 pl
                  refine wd_iret hx hb hr hlocks hW hS dX2_copy_105 ?_
                  have e9 : s_copy (cd, pl, df, tx, kp, rs) (nI xN) (nI iN) (nI yN) j (nI nN) = (0, 3, pl, df, tx, kp, rs) := by simp only [s_copy, if_neg (not_or.mpr ⟨c_4, c_11⟩), s_w2, s_no, s_rs, if_neg (not_or.mpr ⟨c_55, not_not_intro c_68⟩), if_pos (Or.inr ((beyond_iff (by omega)).mp c_97)), hcl_x, hcl_y, hcl_n, hcl_i, htx_22, htx_30]
                  show _ = (s_copy (cd, pl, df, tx, kp, rs) (nI xN) (nI iN) (nI yN) j (nI nN)).1 ∧ InvC cI cT o (s_copy (cd, pl, df, tx, kp, rs) (nI xN) (nI iN) (nI yN) j (nI nN)).2 _
                  rw [e9]
                  exact ⟨rfl, tA, kA, dr, drI, wk, wkI, sw, swI, aT, aI, Xd, hC⟩
            ·
              refine lv_aload_n hx hb dX2_copy_71 rfl (lv_at hl 2 rfl) ?_
              refine lv_iconst (v := 2) hx hb dX2_copy_72 (by decide) ?_
              refine wd_callVi (As := [.int 2]) (rest := []) (c2 := 0) (s2 := 0) ⟨hx, hb, hml, hown, hts⟩ (k_X2_refuse l D cI cT w H.size o tA kA (nI kp.length) dr wk sw cd pl 2 hC.1) (cwV 1 hts gX2_copy_X2_refuse rfl rfl rfl (by decide +kernel) ⟨Nat.le_of_ble_eq_true rfl, Nat.le_of_ble_eq_true rfl⟩) gK_ok hK hW (wd_recv (ci := 2) hK.1 hW rfl hC.1) hS hA rfl hl.1 rfl (Nat.le_of_ble_eq_true rfl) dX2_copy_73 ⟨Nat.le_of_ble_eq_true rfl, Nat.le_of_ble_eq_true rfl⟩ rfl rfl (fun r_73 w_73 H locs hp_73 hW hz hS => ?_)
              obtain ⟨q_r, q_w⟩ := hp_73
              subst r_73
              subst w_73
              have hC := hC.obj 2 pl
              refine wd_iret hx hb hr hlocks hW hS dX2_copy_76 ?_
              have e9 : s_copy (cd, pl, df, tx, kp, rs) (nI xN) i (nI yN) j n = (0, 2, pl, df, tx, kp, rs) := by simp only [s_copy, if_neg (not_or.mpr ⟨c_4, c_11⟩), s_w2, s_no, s_rs, if_pos (Or.inr c_68), hcl_x, hcl_y, htx_22, htx_30]
              show _ = (s_copy (cd, pl, df, tx, kp, rs) (nI xN) i (nI yN) j n).1 ∧ InvC cI cT o (s_copy (cd, pl, df, tx, kp, rs) (nI xN) i (nI yN) j n).2 _
              rw [e9]
              exact ⟨rfl, tA, kA, dr, drI, wk, wkI, sw, swI, aT, aI, Xd, hC⟩
    ·
      have c_11 := j_bn c_11
      refine lv_ldc (v := (-2000000001)) hx hb hown (hts (.constant RX2 47 (-2000000001)) (by decide +kernel)) dX2_copy_14 ?_
      refine wd_iret hx hb hr hlocks hW hS dX2_copy_16 ?_
      have e9 : s_copy (cd, pl, df, tx, kp, rs) (nI xN) i y j n = ((-2000000001), cd, pl, df, tx, kp, rs) := by simp only [s_copy, if_pos (Or.inr c_11), s_w2, s_no, s_rs, hcl_x]
      show _ = (s_copy (cd, pl, df, tx, kp, rs) (nI xN) i y j n).1 ∧ InvC cI cT o (s_copy (cd, pl, df, tx, kp, rs) (nI xN) i y j n).2 _
      rw [e9]
      exact ⟨rfl, tA, kA, dr, drI, wk, wkI, sw, swI, aT, aI, Xd, hC⟩
set_option maxHeartbeats 4000000 in
set_option maxRecDepth 100000 in
theorem k_X2_find (l : Launch) (D : va_G) (cI cT : ClassId) (w : Wd) (sz : Nat) (o : Nat) (cd : Int32) (pl : Int32) (df : List Int32) (tx : Nat → Option Nat) (kp : List Nat) (rs : Rws) (a : Int32) (b : Int32) (i : Int32) (hwf : WF (cd, pl, df, tx, kp, rs)) (hI : InvC cI cT o (cd, pl, df, tx, kp, rs) w) : wd_Mi l D vwCl (gK D cI cT) yX2_find wsX2_find (wd_rm 4 0 0) [.ref o, .int a, .int b, .int i] w sz (fun r w' => r = (s_find (cd, pl, df, tx, kp, rs) a b i).1 ∧ InvC cI cT o (s_find (cd, pl, df, tx, kp, rs) a b i).2 w') := by
  refine wd_met (cc := cX2_find) (maxL := 8) (ret := (some .int)) (by decide) rfl (Nat.le_of_ble_eq_true rfl) ?_
  intro pg ev sg mi bl mt cde ls C0 hsz hK hW hl
  obtain ⟨hx, hb, hr, hml, hown, hts, hlocks, hnm⟩ := C0
  subst hsz
  have hown : sg.vm.findClass RX2 = some mi.cls := hown
  have hS : va_S (wd_A w sg.heap.size) sg.heap sg.heap [] := va_S.rf
  have hA : ∀ q, sg.heap.size ≤ q → wd_A w sg.heap.size q := fun q h => Or.inr h
  have hl : lv_has ls 8 [(0, .ref o), (1, .int a), (2, .int b), (3, .int i)] := hl
  obtain ⟨tA, kA, dr, drI, wk, wkI, sw, swI, aT, aI, Xd, hC⟩ := hI
  dsimp only at hC
  obtain ⟨Xw, hXw⟩ := hC.2.2.2.2.1
  obtain ⟨Xs, hXs⟩ := hC.2.2.2.2.2.1
  have hXd1 := hC.2.2.2.1.1.2.2.1
  have hdf := hC.2.2.2.1.2
  have hkp : kp.length ≤ 12 := hwf.2.2.1
  have hdl : df.length = Xd.2 := by rw [← hC.2.2.2.1.2, rl_len]
  have hdg : ∀ j, j < df.length → Xd.1 j = lf df j := fun j hj => by rw [← hdf, lf, rl_getD (by omega)]
  refine lv_iload_n hx hb dX2_find_0 rfl (lv_at hl 1 rfl) ?_
  refine wd_callSi (As := [.int a]) (rest := []) (c2 := 0) (s2 := 0) ⟨hx, hb, hml, hown, hts⟩ (k_X2_isNoText l D cI cT w sg.heap.size a ) (va_cwS 1 hts gX2_find_X2_isNoText rfl rfl rfl (by decide +kernel) ⟨Nat.le_of_ble_eq_true rfl, Nat.le_of_ble_eq_true rfl⟩) gK_ok hK hW hS hA rfl hl.1 rfl (Nat.le_of_ble_eq_true rfl) dX2_find_1 ⟨Nat.le_of_ble_eq_true rfl, Nat.le_of_ble_eq_true rfl⟩ rfl rfl (fun r_1 w_1 H locs hp_1 hW hz hS => ?_)
  obtain ⟨q_r, q_w⟩ := hp_1
  subst r_1
  subst w_1
  refine lv_if_ne (tgt := 14) hx hb dX2_find_4 (by decide) (fun c_4 => ?_) (fun c_4 => ?_)
  ·
    have c_4 := j_bn c_4
    refine lv_ldc (v := (-2000000001)) hx hb hown (hts (.constant RX2 47 (-2000000001)) (by decide +kernel)) dX2_find_14 ?_
    refine wd_iret hx hb hr hlocks hW hS dX2_find_16 ?_
    have e9 : s_find (cd, pl, df, tx, kp, rs) a b i = ((-2000000001), cd, pl, df, tx, kp, rs) := by simp only [s_find, if_pos (Or.inl c_4), s_w2]
    show _ = (s_find (cd, pl, df, tx, kp, rs) a b i).1 ∧ InvC cI cT o (s_find (cd, pl, df, tx, kp, rs) a b i).2 _
    rw [e9]
    exact ⟨rfl, tA, kA, dr, drI, wk, wkI, sw, swI, aT, aI, Xd, hC⟩
  ·
    have c_4 := j_b0 c_4
    obtain ⟨aN, haN, haE⟩ := nt_spec c_4
    subst haE
    have hcl_a : (nI aN).toNatClampNeg = aN := nI_clamp (by omega)
    refine lv_iload_n hx hb dX2_find_7 rfl (lv_at hl 2 rfl) ?_
    refine wd_callSi (As := [.int b]) (rest := []) (c2 := 0) (s2 := 0) ⟨hx, hb, hml, hown, hts⟩ (k_X2_isNoText l D cI cT w H.size b ) (va_cwS 1 hts gX2_find_X2_isNoText rfl rfl rfl (by decide +kernel) ⟨Nat.le_of_ble_eq_true rfl, Nat.le_of_ble_eq_true rfl⟩) gK_ok hK hW hS hA rfl hl.1 rfl (Nat.le_of_ble_eq_true rfl) dX2_find_8 ⟨Nat.le_of_ble_eq_true rfl, Nat.le_of_ble_eq_true rfl⟩ rfl rfl (fun r_8 w_8 H locs hp_8 hW hz hS => ?_)
    obtain ⟨q_r, q_w⟩ := hp_8
    subst r_8
    subst w_8
    refine lv_if_eq (tgt := 17) hx hb dX2_find_11 (by decide) (fun c_11 => ?_) (fun c_11 => ?_)
    ·
      have c_11 := j_b0 c_11
      obtain ⟨bN, hbN, hbE⟩ := nt_spec c_11
      subst hbE
      have hcl_b : (nI bN).toNatClampNeg = bN := nI_clamp (by omega)
      refine lv_aload_n hx hb dX2_find_17 rfl (lv_at hl 0 rfl) ?_
      refine wd_get (ci := 2) (v := .ref tA) (C := RX2) (T := TX2) (N := 8) hx hb hts (by decide +kernel) hown hK.1 hW hC.1 rfl 0 (by decide) (hts (.fieldLink RX2 11 "CharRows" "texts" "[LCharRows$Text;") (by decide +kernel)) (fun _ h9 => h9) rfl dX2_find_18 ?_
      refine lv_iload_n hx hb dX2_find_21 rfl (lv_at hl 1 rfl) ?_
      refine wd_aldq hx hb hK.1 hW 1 hC.2.1 rfl (vp_in_nI (by omega) (by omega)) dX2_find_22 ?_
      rw [nI_clamp (by omega)]
      cases htx_22 : tx aN with
      | none =>
        refine wd_topR (y := .null) (by simp [htx_22, va_rf]) ?_
        refine lv_astoreN (lv' := [(4, .null), (0, .ref o), (1, .int (nI aN)), (2, .int (nI bN)), (3, .int i)]) hx hb dX2_find_23 hl (by decide) rfl (fun ls hl => ?_)
        refine lv_aload_n hx hb dX2_find_25 rfl (lv_at hl 1 rfl) ?_
        refine wd_get (ci := 2) (v := .ref tA) (C := RX2) (T := TX2) (N := 8) hx hb hts (by decide +kernel) hown hK.1 hW hC.1 rfl 0 (by decide) (hts (.fieldLink RX2 11 "CharRows" "texts" "[LCharRows$Text;") (by decide +kernel)) (fun _ h9 => h9) rfl dX2_find_26 ?_
        refine lv_iload_n hx hb dX2_find_29 rfl (lv_at hl 3 rfl) ?_
        refine wd_aldq hx hb hK.1 hW 1 hC.2.1 rfl (vp_in_nI (by omega) (by omega)) dX2_find_30 ?_
        rw [nI_clamp (by omega)]
        cases htx_30 : tx bN with
        | none =>
          refine wd_topR (y := .null) (by simp [htx_30, va_rf]) ?_
          refine lv_astoreN (lv' := [(5, .null), (4, .null), (0, .ref o), (1, .int (nI aN)), (2, .int (nI bN)), (3, .int i)]) hx hb dX2_find_31 hl (by decide) rfl (fun ls hl => ?_)
          refine lv_aloadN hx hb dX2_find_33 (lv_at hl 1 rfl) ?_
          refine lv_ifnullN (tgt := 43) hx hb dX2_find_35 (by decide) ?_
          refine lv_aload_n hx hb dX2_find_43 rfl (lv_at hl 2 rfl) ?_
          refine lv_iconst (v := 1) hx hb dX2_find_44 (by decide) ?_
          refine wd_callVi (As := [.int 1]) (rest := []) (c2 := 0) (s2 := 0) ⟨hx, hb, hml, hown, hts⟩ (k_X2_refuse l D cI cT w H.size o tA kA (nI kp.length) dr wk sw cd pl 1 hC.1) (cwV 1 hts gX2_find_X2_refuse rfl rfl rfl (by decide +kernel) ⟨Nat.le_of_ble_eq_true rfl, Nat.le_of_ble_eq_true rfl⟩) gK_ok hK hW (wd_recv (ci := 2) hK.1 hW rfl hC.1) hS hA rfl hl.1 rfl (Nat.le_of_ble_eq_true rfl) dX2_find_45 ⟨Nat.le_of_ble_eq_true rfl, Nat.le_of_ble_eq_true rfl⟩ rfl rfl (fun r_45 w_45 H locs hp_45 hW hz hS => ?_)
          obtain ⟨q_r, q_w⟩ := hp_45
          subst r_45
          subst w_45
          have hC := hC.obj 1 pl
          refine lv_pop hx hb dX2_find_48 rfl ?_
          refine lv_iconst (v := (-1)) hx hb dX2_find_49 (by decide) ?_
          refine wd_iret hx hb hr hlocks hW hS dX2_find_50 ?_
          have e9 : s_find (cd, pl, df, tx, kp, rs) (nI aN) (nI bN) i = ((-1), 1, pl, df, tx, kp, rs) := by simp only [s_find, if_neg (not_or.mpr ⟨c_4, c_11⟩), s_w2, hcl_a, hcl_b, htx_22, htx_30]
          show _ = (s_find (cd, pl, df, tx, kp, rs) (nI aN) (nI bN) i).1 ∧ InvC cI cT o (s_find (cd, pl, df, tx, kp, rs) (nI aN) (nI bN) i).2 _
          rw [e9]
          exact ⟨rfl, tA, kA, dr, drI, wk, wkI, sw, swI, aT, aI, Xd, hC⟩
        | some r_30 =>
          refine wd_topR (y := .ref (aT r_30)) (by simp [htx_30, va_rf]) ?_
          have hl_30 : live tx kp r_30 := Or.inl ⟨_, htx_30⟩
          have hok_30 : rOK (rs r_30) := (hwf.2.2.2.1 r_30 hl_30).2
          have hlen_30 := hok_30.len
          refine lv_astore (lv' := [(5, .ref (aT r_30)), (4, .null), (0, .ref o), (1, .int (nI aN)), (2, .int (nI bN)), (3, .int i)]) hx hb dX2_find_31 hl (by decide) rfl (fun ls hl => ?_)
          refine lv_aloadN hx hb dX2_find_33 (lv_at hl 1 rfl) ?_
          refine lv_ifnullN (tgt := 43) hx hb dX2_find_35 (by decide) ?_
          refine lv_aload_n hx hb dX2_find_43 rfl (lv_at hl 2 rfl) ?_
          refine lv_iconst (v := 1) hx hb dX2_find_44 (by decide) ?_
          refine wd_callVi (As := [.int 1]) (rest := []) (c2 := 0) (s2 := 0) ⟨hx, hb, hml, hown, hts⟩ (k_X2_refuse l D cI cT w H.size o tA kA (nI kp.length) dr wk sw cd pl 1 hC.1) (cwV 1 hts gX2_find_X2_refuse rfl rfl rfl (by decide +kernel) ⟨Nat.le_of_ble_eq_true rfl, Nat.le_of_ble_eq_true rfl⟩) gK_ok hK hW (wd_recv (ci := 2) hK.1 hW rfl hC.1) hS hA rfl hl.1 rfl (Nat.le_of_ble_eq_true rfl) dX2_find_45 ⟨Nat.le_of_ble_eq_true rfl, Nat.le_of_ble_eq_true rfl⟩ rfl rfl (fun r_45 w_45 H locs hp_45 hW hz hS => ?_)
          obtain ⟨q_r, q_w⟩ := hp_45
          subst r_45
          subst w_45
          have hC := hC.obj 1 pl
          refine lv_pop hx hb dX2_find_48 rfl ?_
          refine lv_iconst (v := (-1)) hx hb dX2_find_49 (by decide) ?_
          refine wd_iret hx hb hr hlocks hW hS dX2_find_50 ?_
          have e9 : s_find (cd, pl, df, tx, kp, rs) (nI aN) (nI bN) i = ((-1), 1, pl, df, tx, kp, rs) := by simp only [s_find, if_neg (not_or.mpr ⟨c_4, c_11⟩), s_w2, hcl_a, hcl_b, htx_22, htx_30]
          show _ = (s_find (cd, pl, df, tx, kp, rs) (nI aN) (nI bN) i).1 ∧ InvC cI cT o (s_find (cd, pl, df, tx, kp, rs) (nI aN) (nI bN) i).2 _
          rw [e9]
          exact ⟨rfl, tA, kA, dr, drI, wk, wkI, sw, swI, aT, aI, Xd, hC⟩
      | some r_22 =>
        refine wd_topR (y := .ref (aT r_22)) (by simp [htx_22, va_rf]) ?_
        have hl_22 : live tx kp r_22 := Or.inl ⟨_, htx_22⟩
        have hok_22 : rOK (rs r_22) := (hwf.2.2.2.1 r_22 hl_22).2
        have hlen_22 := hok_22.len
        refine lv_astore (lv' := [(4, .ref (aT r_22)), (0, .ref o), (1, .int (nI aN)), (2, .int (nI bN)), (3, .int i)]) hx hb dX2_find_23 hl (by decide) rfl (fun ls hl => ?_)
        refine lv_aload_n hx hb dX2_find_25 rfl (lv_at hl 1 rfl) ?_
        refine wd_get (ci := 2) (v := .ref tA) (C := RX2) (T := TX2) (N := 8) hx hb hts (by decide +kernel) hown hK.1 hW hC.1 rfl 0 (by decide) (hts (.fieldLink RX2 11 "CharRows" "texts" "[LCharRows$Text;") (by decide +kernel)) (fun _ h9 => h9) rfl dX2_find_26 ?_
        refine lv_iload_n hx hb dX2_find_29 rfl (lv_at hl 3 rfl) ?_
        refine wd_aldq hx hb hK.1 hW 1 hC.2.1 rfl (vp_in_nI (by omega) (by omega)) dX2_find_30 ?_
        rw [nI_clamp (by omega)]
        cases htx_30 : tx bN with
        | none =>
          refine wd_topR (y := .null) (by simp [htx_30, va_rf]) ?_
          refine lv_astoreN (lv' := [(5, .null), (4, .ref (aT r_22)), (0, .ref o), (1, .int (nI aN)), (2, .int (nI bN)), (3, .int i)]) hx hb dX2_find_31 hl (by decide) rfl (fun ls hl => ?_)
          refine lv_aload hx hb dX2_find_33 (lv_at hl 1 rfl) ?_
          refine lv_ifnull hx hb dX2_find_35 ?_
          refine lv_aloadN hx hb dX2_find_38 (lv_at hl 0 rfl) ?_
          refine lv_ifnonnullN hx hb dX2_find_40 ?_
          refine lv_aload_n hx hb dX2_find_43 rfl (lv_at hl 2 rfl) ?_
          refine lv_iconst (v := 1) hx hb dX2_find_44 (by decide) ?_
          refine wd_callVi (As := [.int 1]) (rest := []) (c2 := 0) (s2 := 0) ⟨hx, hb, hml, hown, hts⟩ (k_X2_refuse l D cI cT w H.size o tA kA (nI kp.length) dr wk sw cd pl 1 hC.1) (cwV 1 hts gX2_find_X2_refuse rfl rfl rfl (by decide +kernel) ⟨Nat.le_of_ble_eq_true rfl, Nat.le_of_ble_eq_true rfl⟩) gK_ok hK hW (wd_recv (ci := 2) hK.1 hW rfl hC.1) hS hA rfl hl.1 rfl (Nat.le_of_ble_eq_true rfl) dX2_find_45 ⟨Nat.le_of_ble_eq_true rfl, Nat.le_of_ble_eq_true rfl⟩ rfl rfl (fun r_45 w_45 H locs hp_45 hW hz hS => ?_)
          obtain ⟨q_r, q_w⟩ := hp_45
          subst r_45
          subst w_45
          have hC := hC.obj 1 pl
          refine lv_pop hx hb dX2_find_48 rfl ?_
          refine lv_iconst (v := (-1)) hx hb dX2_find_49 (by decide) ?_
          refine wd_iret hx hb hr hlocks hW hS dX2_find_50 ?_
          have e9 : s_find (cd, pl, df, tx, kp, rs) (nI aN) (nI bN) i = ((-1), 1, pl, df, tx, kp, rs) := by simp only [s_find, if_neg (not_or.mpr ⟨c_4, c_11⟩), s_w2, hcl_a, hcl_b, htx_22, htx_30]
          show _ = (s_find (cd, pl, df, tx, kp, rs) (nI aN) (nI bN) i).1 ∧ InvC cI cT o (s_find (cd, pl, df, tx, kp, rs) (nI aN) (nI bN) i).2 _
          rw [e9]
          exact ⟨rfl, tA, kA, dr, drI, wk, wkI, sw, swI, aT, aI, Xd, hC⟩
        | some r_30 =>
          refine wd_topR (y := .ref (aT r_30)) (by simp [htx_30, va_rf]) ?_
          have hl_30 : live tx kp r_30 := Or.inl ⟨_, htx_30⟩
          have hok_30 : rOK (rs r_30) := (hwf.2.2.2.1 r_30 hl_30).2
          have hlen_30 := hok_30.len
          refine lv_astore (lv' := [(5, .ref (aT r_30)), (4, .ref (aT r_22)), (0, .ref o), (1, .int (nI aN)), (2, .int (nI bN)), (3, .int i)]) hx hb dX2_find_31 hl (by decide) rfl (fun ls hl => ?_)
          refine lv_aload hx hb dX2_find_33 (lv_at hl 1 rfl) ?_
          refine lv_ifnull hx hb dX2_find_35 ?_
          refine lv_aload hx hb dX2_find_38 (lv_at hl 0 rfl) ?_
          refine lv_ifnonnull (tgt := 51) hx hb dX2_find_40 (by decide) ?_
          refine lv_aload hx hb dX2_find_51 (lv_at hl 1 rfl) ?_
          refine wd_get (ci := 1) (v := .int ((rs r_22).1)) (C := RX1) (T := TX1) (N := 2) hx hb hts (by decide +kernel) hown hK.1 hW (hC.2.2.2.2.2.2.2.1 r_22 hl_22).1 rfl 0 (by decide) (hts (.fieldLink RX2 94 "CharRows$Text" "kindOfItems" "I") (by decide +kernel)) (fun _ h9 => h9) rfl dX2_find_53 ?_
          refine lv_aload hx hb dX2_find_56 (lv_at hl 0 rfl) ?_
          refine wd_get (ci := 1) (v := .int ((rs r_30).1)) (C := RX1) (T := TX1) (N := 2) hx hb hts (by decide +kernel) hown hK.1 hW (hC.2.2.2.2.2.2.2.1 r_30 hl_30).1 rfl 0 (by decide) (hts (.fieldLink RX2 94 "CharRows$Text" "kindOfItems" "I") (by decide +kernel)) (fun _ h9 => h9) rfl dX2_find_58 ?_
          refine lv_icmp_eq (tgt := 72) hx hb dX2_find_61 (by decide) (fun c_61 => ?_) (fun c_61 => ?_)
          ·
            refine lv_aload hx hb dX2_find_72 (lv_at hl 1 rfl) ?_
            refine wd_get (ci := 1) (v := .ref (aI r_22)) (C := RX1) (T := TX1) (N := 2) hx hb hts (by decide +kernel) hown hK.1 hW (hC.2.2.2.2.2.2.2.1 r_22 hl_22).1 rfl 1 (by decide) (hts (.fieldLink RX2 93 "CharRows$Text" "items" "[I") (by decide +kernel)) (fun _ h9 => h9) rfl dX2_find_74 ?_
            refine wd_alen hx hb hK.1 hW 0 (hC.2.2.2.2.2.2.2.1 r_22 hl_22).2.1 rfl dX2_find_77 ?_
            refine lv_aload hx hb dX2_find_78 (lv_at hl 0 rfl) ?_
            refine wd_get (ci := 1) (v := .ref (aI r_30)) (C := RX1) (T := TX1) (N := 2) hx hb hts (by decide +kernel) hown hK.1 hW (hC.2.2.2.2.2.2.2.1 r_30 hl_30).1 rfl 1 (by decide) (hts (.fieldLink RX2 93 "CharRows$Text" "items" "[I") (by decide +kernel)) (fun _ h9 => h9) rfl dX2_find_80 ?_
            refine wd_alen hx hb hK.1 hW 0 (hC.2.2.2.2.2.2.2.1 r_30 hl_30).2.1 rfl dX2_find_83 ?_
            refine lv_isub hx hb dX2_find_84 ?_
            refine lv_istore (lv' := [(6, .int ((nI ((rs r_22).2.length)) - (nI ((rs r_30).2.length)))), (5, .ref (aT r_30)), (4, .ref (aT r_22)), (0, .ref o), (1, .int (nI aN)), (2, .int (nI bN)), (3, .int i)]) hx hb dX2_find_85 hl (by decide) rfl (fun ls hl => ?_)
            refine lv_iload_n hx hb dX2_find_87 rfl (lv_at hl 6 rfl) ?_
            refine lv_if_ge (tgt := 95) hx hb dX2_find_88 (by decide) (fun c_88 => ?_) (fun c_88 => ?_)
            ·
              simp only [i_le, Decidable.not_not] at c_88
              obtain ⟨iN, hiN, hiE⟩ := nI_of c_88
              subst hiE
              have hcl_i : (nI iN).toNatClampNeg = iN := nI_clamp (by omega)
              refine lv_iload_n hx hb dX2_find_95 rfl (lv_at hl 6 rfl) ?_
              refine lv_istore (lv' := [(7, .int (nI iN)), (6, .int ((nI ((rs r_22).2.length)) - (nI ((rs r_30).2.length)))), (5, .ref (aT r_30)), (4, .ref (aT r_22)), (0, .ref o), (1, .int (nI aN)), (2, .int (nI bN)), (3, .int (nI iN))]) hx hb dX2_find_96 hl (by decide) rfl (fun ls hl => ?_)
              refine wd_loop1 (fun (kN : Nat) (H : Heap) (locs : List Loc) (ls : Array Slot) => kN < 2 ^ 31 ∧ (j_srch (u_st (rs r_22).1 (rs r_22).2 (rs r_30).2) ((rs r_22).2.length + 1 - (rs r_30).2.length - iN) iN = j_srch (u_st (rs r_22).1 (rs r_22).2 (rs r_30).2) ((rs r_22).2.length + 1 - (rs r_30).2.length - kN) kN) ∧ wd_P D vwCl (wd_A w sg.heap.size) w H ∧ va_S (wd_A w sg.heap.size) sg.heap H locs ∧ lv_has ls 8 [(0, .ref o), (1, .int (nI aN)), (2, .int (nI bN)), (3, .int (nI iN)), (4, .ref (aT r_22)), (5, .ref (aT r_30)), (6, .int (nI (rs r_22).2.length - nI (rs r_30).2.length)), (7, .int (nI kN))]) (fun (kN : Nat) => (rs r_22).2.length + 1 - (rs r_30).2.length - kN) iN ⟨by omega, rfl, hW, hS, (lv_sub hl [4, 5, 6, 7, 3, 2, 1, 0] rfl)⟩ (fun kN H locs ls hI ih => ?_)
              obtain ⟨hkN, hsr, hW, hS, hl⟩ := hI
              refine lv_iload hx hb dX2_find_98 (lv_at hl 7 rfl) ?_
              refine lv_iload hx hb dX2_find_100 (lv_at hl 6 rfl) ?_
              refine lv_icmp_gt (tgt := 130) hx hb dX2_find_102 (by decide) (fun c_102 => ?_) (fun c_102 => ?_)
              ·
                have c_102 := (last_iff (by omega) (by omega) (by omega)).mp c_102
                refine lv_aload_n hx hb dX2_find_130 rfl (lv_at hl 0 rfl) ?_
                refine lv_iconst (v := (-1)) hx hb dX2_find_131 (by decide) ?_
                refine wd_callVi (As := [.int (-1)]) (rest := []) (c2 := 0) (s2 := 0) ⟨hx, hb, hml, hown, hts⟩ (k_X2_done l D cI cT w H.size o tA kA (nI kp.length) dr wk sw cd pl (-1) hC.1) (cwV 1 hts gX2_find_X2_done rfl rfl rfl (by decide +kernel) ⟨Nat.le_of_ble_eq_true rfl, Nat.le_of_ble_eq_true rfl⟩) gK_ok hK hW (wd_recv (ci := 2) hK.1 hW rfl hC.1) hS hA rfl hl.1 rfl (Nat.le_of_ble_eq_true rfl) dX2_find_132 ⟨Nat.le_of_ble_eq_true rfl, Nat.le_of_ble_eq_true rfl⟩ rfl rfl (fun r_132 w_132 H locs hp_132 hW hz hS => ?_)
                obtain ⟨q_r, q_w⟩ := hp_132
                subst r_132
                subst w_132
                have hC := hC.obj 0 pl
                refine wd_iret hx hb hr hlocks hW hS dX2_find_135 ?_
                have e9 : s_find (cd, pl, df, tx, kp, rs) (nI aN) (nI bN) (nI iN) = ((-1), 0, pl, df, tx, kp, rs) := by simp only [s_find, if_neg (not_or.mpr ⟨c_4, c_11⟩), s_w2, if_neg (not_not_intro c_61), hcl_a, hcl_b, hcl_i, htx_22, htx_30]; rw [hsr, j_srch_0 (by omega)]
                show _ = (s_find (cd, pl, df, tx, kp, rs) (nI aN) (nI bN) (nI iN)).1 ∧ InvC cI cT o (s_find (cd, pl, df, tx, kp, rs) (nI aN) (nI bN) (nI iN)).2 _
                rw [e9]
                exact ⟨rfl, tA, kA, dr, drI, wk, wkI, sw, swI, aT, aI, Xd, hC⟩
              ·
                have c_102 : ¬ ((rs r_22).2.length + 1 - (rs r_30).2.length ≤ kN) := fun q => c_102 ((last_iff (by omega) (by omega) (by omega)).mpr q)
                refine lv_aload hx hb dX2_find_105 (lv_at hl 4 rfl) ?_
                refine lv_aload hx hb dX2_find_107 (lv_at hl 5 rfl) ?_
                refine lv_iload hx hb dX2_find_109 (lv_at hl 7 rfl) ?_
                refine wd_callSi (As := [.ref (aT r_22), .ref (aT r_30), .int (nI kN)]) (rest := []) (c2 := 0) (s2 := 0) ⟨hx, hb, hml, hown, hts⟩ (k_X2_standsAt l D cI cT w H.size (aT r_22) (aI r_22) ((rs r_22).1) ((rs r_22).2.length) (lf (rs r_22).2) (aT r_30) (aI r_30) ((rs r_30).1) ((rs r_30).2.length) (lf (rs r_30).2) (nI kN) (⟨(hC.2.2.2.2.2.2.2.1 r_22 hl_22).1, (hC.2.2.2.2.2.2.2.1 r_22 hl_22).2.1, by omega⟩) (⟨(hC.2.2.2.2.2.2.2.1 r_30 hl_30).1, (hC.2.2.2.2.2.2.2.1 r_30 hl_30).2.1, by omega⟩)) (va_cwS 3 hts gX2_find_X2_standsAt rfl rfl rfl (by decide +kernel) ⟨Nat.le_of_ble_eq_true rfl, Nat.le_of_ble_eq_true rfl⟩) gK_ok hK hW hS hA rfl hl.1 rfl (Nat.le_of_ble_eq_true rfl) dX2_find_111 ⟨Nat.le_of_ble_eq_true rfl, Nat.le_of_ble_eq_true rfl⟩ rfl rfl (fun r_111 w_111 H locs hp_111 hW hz hS => ?_)
                obtain ⟨q_r, q_w⟩ := hp_111
                subst r_111
                subst w_111
                refine lv_if_eq (tgt := 124) hx hb dX2_find_114 (by decide) (fun c_114 => ?_) (fun c_114 => ?_)
                ·
                  have c_114 : ¬ u_st (rs r_22).1 (rs r_22).2 (rs r_30).2 kN := fun q => j_b0 c_114 ((stands_iff (by omega) (by omega) (by omega)).mpr q)
                  refine lv_iinc (v := nI (kN + 1)) (lv' := [(7, .int (nI (kN + 1))), (0, .ref o), (1, .int (nI aN)), (2, .int (nI bN)), (3, .int (nI iN)), (4, .ref (aT r_22)), (5, .ref (aT r_30)), (6, .int (nI (rs r_22).2.length - nI (rs r_30).2.length))]) hx hb dX2_find_124 hl (k := 7) rfl (nI_add kN 1) (by decide) rfl (fun ls hl => ?_)
                  refine lv_goto (tgt := 98) hx hb dX2_find_127 (by decide) ?_
                  exact ih (kN + 1) H locs ls ⟨by omega, hsr.trans ((j_srch_miss c_114 (by omega)).trans (by rw [show (rs r_22).2.length + 1 - (rs r_30).2.length - kN - 1 = (rs r_22).2.length + 1 - (rs r_30).2.length - (kN + 1) by omega])), hW, hS, (lv_sub hl [1, 2, 3, 4, 5, 6, 7, 0] rfl)⟩ (by omega)
                ·
                  have c_114 : u_st (rs r_22).1 (rs r_22).2 (rs r_30).2 kN := (stands_iff (by omega) (by omega) (by omega)).mp (j_bn c_114)
                  refine lv_aload_n hx hb dX2_find_117 rfl (lv_at hl 0 rfl) ?_
                  refine lv_iload hx hb dX2_find_118 (lv_at hl 7 rfl) ?_
                  refine wd_callVi (As := [.int (nI kN)]) (rest := []) (c2 := 0) (s2 := 0) ⟨hx, hb, hml, hown, hts⟩ (k_X2_done l D cI cT w H.size o tA kA (nI kp.length) dr wk sw cd pl (nI kN) hC.1) (cwV 1 hts gX2_find_X2_done rfl rfl rfl (by decide +kernel) ⟨Nat.le_of_ble_eq_true rfl, Nat.le_of_ble_eq_true rfl⟩) gK_ok hK hW (wd_recv (ci := 2) hK.1 hW rfl hC.1) hS hA rfl hl.1 rfl (Nat.le_of_ble_eq_true rfl) dX2_find_120 ⟨Nat.le_of_ble_eq_true rfl, Nat.le_of_ble_eq_true rfl⟩ rfl rfl (fun r_120 w_120 H locs hp_120 hW hz hS => ?_)
                  obtain ⟨q_r, q_w⟩ := hp_120
                  subst r_120
                  subst w_120
                  have hC := hC.obj 0 pl
                  refine wd_iret hx hb hr hlocks hW hS dX2_find_123 ?_
                  have e9 : s_find (cd, pl, df, tx, kp, rs) (nI aN) (nI bN) (nI iN) = (nI kN, 0, pl, df, tx, kp, rs) := by simp only [s_find, if_neg (not_or.mpr ⟨c_4, c_11⟩), s_w2, if_neg (not_not_intro c_61), hcl_a, hcl_b, hcl_i, htx_22, htx_30]; rw [hsr, j_srch_hit c_114 (by omega)]
                  show _ = (s_find (cd, pl, df, tx, kp, rs) (nI aN) (nI bN) (nI iN)).1 ∧ InvC cI cT o (s_find (cd, pl, df, tx, kp, rs) (nI aN) (nI bN) (nI iN)).2 _
                  rw [e9]
                  exact ⟨rfl, tA, kA, dr, drI, wk, wkI, sw, swI, aT, aI, Xd, hC⟩
            ·
              simp only [i_le, Decidable.not_not] at c_88
              have hcl_i : i.toNatClampNeg = 0 := clamp_neg c_88
              refine lv_iconst (v := 0) hx hb dX2_find_91 (by decide) ?_
              refine lv_goto (tgt := 96) hx hb dX2_find_92 (by decide) ?_
              refine lv_istore (lv' := [(7, .int 0), (6, .int ((nI ((rs r_22).2.length)) - (nI ((rs r_30).2.length)))), (5, .ref (aT r_30)), (4, .ref (aT r_22)), (0, .ref o), (1, .int (nI aN)), (2, .int (nI bN)), (3, .int i)]) hx hb dX2_find_96 hl (by decide) rfl (fun ls hl => ?_)
              refine wd_loop1 (fun (kN : Nat) (H : Heap) (locs : List Loc) (ls : Array Slot) => kN < 2 ^ 31 ∧ (j_srch (u_st (rs r_22).1 (rs r_22).2 (rs r_30).2) ((rs r_22).2.length + 1 - (rs r_30).2.length - 0) 0 = j_srch (u_st (rs r_22).1 (rs r_22).2 (rs r_30).2) ((rs r_22).2.length + 1 - (rs r_30).2.length - kN) kN) ∧ wd_P D vwCl (wd_A w sg.heap.size) w H ∧ va_S (wd_A w sg.heap.size) sg.heap H locs ∧ lv_has ls 8 [(0, .ref o), (1, .int (nI aN)), (2, .int (nI bN)), (3, .int i), (4, .ref (aT r_22)), (5, .ref (aT r_30)), (6, .int (nI (rs r_22).2.length - nI (rs r_30).2.length)), (7, .int (nI kN))]) (fun (kN : Nat) => (rs r_22).2.length + 1 - (rs r_30).2.length - kN) 0 ⟨by omega, rfl, hW, hS, (lv_sub hl [4, 5, 6, 7, 3, 2, 1, 0] rfl)⟩ (fun kN H locs ls hI ih => ?_)
              obtain ⟨hkN, hsr, hW, hS, hl⟩ := hI
              refine lv_iload hx hb dX2_find_98 (lv_at hl 7 rfl) ?_
              refine lv_iload hx hb dX2_find_100 (lv_at hl 6 rfl) ?_
              refine lv_icmp_gt (tgt := 130) hx hb dX2_find_102 (by decide) (fun c_102 => ?_) (fun c_102 => ?_)
              ·
                have c_102 := (last_iff (by omega) (by omega) (by omega)).mp c_102
                refine lv_aload_n hx hb dX2_find_130 rfl (lv_at hl 0 rfl) ?_
                refine lv_iconst (v := (-1)) hx hb dX2_find_131 (by decide) ?_
                refine wd_callVi (As := [.int (-1)]) (rest := []) (c2 := 0) (s2 := 0) ⟨hx, hb, hml, hown, hts⟩ (k_X2_done l D cI cT w H.size o tA kA (nI kp.length) dr wk sw cd pl (-1) hC.1) (cwV 1 hts gX2_find_X2_done rfl rfl rfl (by decide +kernel) ⟨Nat.le_of_ble_eq_true rfl, Nat.le_of_ble_eq_true rfl⟩) gK_ok hK hW (wd_recv (ci := 2) hK.1 hW rfl hC.1) hS hA rfl hl.1 rfl (Nat.le_of_ble_eq_true rfl) dX2_find_132 ⟨Nat.le_of_ble_eq_true rfl, Nat.le_of_ble_eq_true rfl⟩ rfl rfl (fun r_132 w_132 H locs hp_132 hW hz hS => ?_)
                obtain ⟨q_r, q_w⟩ := hp_132
                subst r_132
                subst w_132
                have hC := hC.obj 0 pl
                refine wd_iret hx hb hr hlocks hW hS dX2_find_135 ?_
                have e9 : s_find (cd, pl, df, tx, kp, rs) (nI aN) (nI bN) i = ((-1), 0, pl, df, tx, kp, rs) := by simp only [s_find, if_neg (not_or.mpr ⟨c_4, c_11⟩), s_w2, if_neg (not_not_intro c_61), hcl_a, hcl_b, hcl_i, htx_22, htx_30]; rw [hsr, j_srch_0 (by omega)]
                show _ = (s_find (cd, pl, df, tx, kp, rs) (nI aN) (nI bN) i).1 ∧ InvC cI cT o (s_find (cd, pl, df, tx, kp, rs) (nI aN) (nI bN) i).2 _
                rw [e9]
                exact ⟨rfl, tA, kA, dr, drI, wk, wkI, sw, swI, aT, aI, Xd, hC⟩
              ·
                have c_102 : ¬ ((rs r_22).2.length + 1 - (rs r_30).2.length ≤ kN) := fun q => c_102 ((last_iff (by omega) (by omega) (by omega)).mpr q)
                refine lv_aload hx hb dX2_find_105 (lv_at hl 4 rfl) ?_
                refine lv_aload hx hb dX2_find_107 (lv_at hl 5 rfl) ?_
                refine lv_iload hx hb dX2_find_109 (lv_at hl 7 rfl) ?_
                refine wd_callSi (As := [.ref (aT r_22), .ref (aT r_30), .int (nI kN)]) (rest := []) (c2 := 0) (s2 := 0) ⟨hx, hb, hml, hown, hts⟩ (k_X2_standsAt l D cI cT w H.size (aT r_22) (aI r_22) ((rs r_22).1) ((rs r_22).2.length) (lf (rs r_22).2) (aT r_30) (aI r_30) ((rs r_30).1) ((rs r_30).2.length) (lf (rs r_30).2) (nI kN) (⟨(hC.2.2.2.2.2.2.2.1 r_22 hl_22).1, (hC.2.2.2.2.2.2.2.1 r_22 hl_22).2.1, by omega⟩) (⟨(hC.2.2.2.2.2.2.2.1 r_30 hl_30).1, (hC.2.2.2.2.2.2.2.1 r_30 hl_30).2.1, by omega⟩)) (va_cwS 3 hts gX2_find_X2_standsAt rfl rfl rfl (by decide +kernel) ⟨Nat.le_of_ble_eq_true rfl, Nat.le_of_ble_eq_true rfl⟩) gK_ok hK hW hS hA rfl hl.1 rfl (Nat.le_of_ble_eq_true rfl) dX2_find_111 ⟨Nat.le_of_ble_eq_true rfl, Nat.le_of_ble_eq_true rfl⟩ rfl rfl (fun r_111 w_111 H locs hp_111 hW hz hS => ?_)
                obtain ⟨q_r, q_w⟩ := hp_111
                subst r_111
                subst w_111
                refine lv_if_eq (tgt := 124) hx hb dX2_find_114 (by decide) (fun c_114 => ?_) (fun c_114 => ?_)
                ·
                  have c_114 : ¬ u_st (rs r_22).1 (rs r_22).2 (rs r_30).2 kN := fun q => j_b0 c_114 ((stands_iff (by omega) (by omega) (by omega)).mpr q)
                  refine lv_iinc (v := nI (kN + 1)) (lv' := [(7, .int (nI (kN + 1))), (0, .ref o), (1, .int (nI aN)), (2, .int (nI bN)), (3, .int i), (4, .ref (aT r_22)), (5, .ref (aT r_30)), (6, .int (nI (rs r_22).2.length - nI (rs r_30).2.length))]) hx hb dX2_find_124 hl (k := 7) rfl (nI_add kN 1) (by decide) rfl (fun ls hl => ?_)
                  refine lv_goto (tgt := 98) hx hb dX2_find_127 (by decide) ?_
                  exact ih (kN + 1) H locs ls ⟨by omega, hsr.trans ((j_srch_miss c_114 (by omega)).trans (by rw [show (rs r_22).2.length + 1 - (rs r_30).2.length - kN - 1 = (rs r_22).2.length + 1 - (rs r_30).2.length - (kN + 1) by omega])), hW, hS, (lv_sub hl [1, 2, 3, 4, 5, 6, 7, 0] rfl)⟩ (by omega)
                ·
                  have c_114 : u_st (rs r_22).1 (rs r_22).2 (rs r_30).2 kN := (stands_iff (by omega) (by omega) (by omega)).mp (j_bn c_114)
                  refine lv_aload_n hx hb dX2_find_117 rfl (lv_at hl 0 rfl) ?_
                  refine lv_iload hx hb dX2_find_118 (lv_at hl 7 rfl) ?_
                  refine wd_callVi (As := [.int (nI kN)]) (rest := []) (c2 := 0) (s2 := 0) ⟨hx, hb, hml, hown, hts⟩ (k_X2_done l D cI cT w H.size o tA kA (nI kp.length) dr wk sw cd pl (nI kN) hC.1) (cwV 1 hts gX2_find_X2_done rfl rfl rfl (by decide +kernel) ⟨Nat.le_of_ble_eq_true rfl, Nat.le_of_ble_eq_true rfl⟩) gK_ok hK hW (wd_recv (ci := 2) hK.1 hW rfl hC.1) hS hA rfl hl.1 rfl (Nat.le_of_ble_eq_true rfl) dX2_find_120 ⟨Nat.le_of_ble_eq_true rfl, Nat.le_of_ble_eq_true rfl⟩ rfl rfl (fun r_120 w_120 H locs hp_120 hW hz hS => ?_)
                  obtain ⟨q_r, q_w⟩ := hp_120
                  subst r_120
                  subst w_120
                  have hC := hC.obj 0 pl
                  refine wd_iret hx hb hr hlocks hW hS dX2_find_123 ?_
                  have e9 : s_find (cd, pl, df, tx, kp, rs) (nI aN) (nI bN) i = (nI kN, 0, pl, df, tx, kp, rs) := by simp only [s_find, if_neg (not_or.mpr ⟨c_4, c_11⟩), s_w2, if_neg (not_not_intro c_61), hcl_a, hcl_b, hcl_i, htx_22, htx_30]; rw [hsr, j_srch_hit c_114 (by omega)]
                  show _ = (s_find (cd, pl, df, tx, kp, rs) (nI aN) (nI bN) i).1 ∧ InvC cI cT o (s_find (cd, pl, df, tx, kp, rs) (nI aN) (nI bN) i).2 _
                  rw [e9]
                  exact ⟨rfl, tA, kA, dr, drI, wk, wkI, sw, swI, aT, aI, Xd, hC⟩
          ·
            refine lv_aload_n hx hb dX2_find_64 rfl (lv_at hl 2 rfl) ?_
            refine lv_iconst (v := 2) hx hb dX2_find_65 (by decide) ?_
            refine wd_callVi (As := [.int 2]) (rest := []) (c2 := 0) (s2 := 0) ⟨hx, hb, hml, hown, hts⟩ (k_X2_refuse l D cI cT w H.size o tA kA (nI kp.length) dr wk sw cd pl 2 hC.1) (cwV 1 hts gX2_find_X2_refuse rfl rfl rfl (by decide +kernel) ⟨Nat.le_of_ble_eq_true rfl, Nat.le_of_ble_eq_true rfl⟩) gK_ok hK hW (wd_recv (ci := 2) hK.1 hW rfl hC.1) hS hA rfl hl.1 rfl (Nat.le_of_ble_eq_true rfl) dX2_find_66 ⟨Nat.le_of_ble_eq_true rfl, Nat.le_of_ble_eq_true rfl⟩ rfl rfl (fun r_66 w_66 H locs hp_66 hW hz hS => ?_)
            obtain ⟨q_r, q_w⟩ := hp_66
            subst r_66
            subst w_66
            have hC := hC.obj 2 pl
            refine lv_pop hx hb dX2_find_69 rfl ?_
            refine lv_iconst (v := (-1)) hx hb dX2_find_70 (by decide) ?_
            refine wd_iret hx hb hr hlocks hW hS dX2_find_71 ?_
            have e9 : s_find (cd, pl, df, tx, kp, rs) (nI aN) (nI bN) i = ((-1), 2, pl, df, tx, kp, rs) := by simp only [s_find, if_neg (not_or.mpr ⟨c_4, c_11⟩), s_w2, if_pos c_61, hcl_a, hcl_b, htx_22, htx_30]
            show _ = (s_find (cd, pl, df, tx, kp, rs) (nI aN) (nI bN) i).1 ∧ InvC cI cT o (s_find (cd, pl, df, tx, kp, rs) (nI aN) (nI bN) i).2 _
            rw [e9]
            exact ⟨rfl, tA, kA, dr, drI, wk, wkI, sw, swI, aT, aI, Xd, hC⟩
    ·
      have c_11 := j_bn c_11
      refine lv_ldc (v := (-2000000001)) hx hb hown (hts (.constant RX2 47 (-2000000001)) (by decide +kernel)) dX2_find_14 ?_
      refine wd_iret hx hb hr hlocks hW hS dX2_find_16 ?_
      have e9 : s_find (cd, pl, df, tx, kp, rs) (nI aN) b i = ((-2000000001), cd, pl, df, tx, kp, rs) := by simp only [s_find, if_pos (Or.inr c_11), s_w2, hcl_a]
      show _ = (s_find (cd, pl, df, tx, kp, rs) (nI aN) b i).1 ∧ InvC cI cT o (s_find (cd, pl, df, tx, kp, rs) (nI aN) b i).2 _
      rw [e9]
      exact ⟨rfl, tA, kA, dr, drI, wk, wkI, sw, swI, aT, aI, Xd, hC⟩
