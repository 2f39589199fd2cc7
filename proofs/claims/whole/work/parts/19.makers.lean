set_option maxHeartbeats 4000000 in
set_option maxRecDepth 100000 in
theorem k_X2_lay (l : Launch) (D : va_G) (cI cT : ClassId) (w : Wd) (sz : Nat) (o : Nat) (cd : Int32) (pl : Int32) (df : List Int32) (tx : Nat → Option Nat) (kp : List Nat) (rs : Rws) (t : Int32) (kd : Int32) (hwf : WF (cd, pl, df, tx, kp, rs)) (hI : InvC cI cT o (cd, pl, df, tx, kp, rs) w) : wd_Mi l D vwCl (gK D cI cT) yX2_lay wsX2_lay (wd_rm 4 2 242) [.ref o, .int t, .int kd] w sz (fun r w' => r = (s_lay (cd, pl, df, tx, kp, rs) t kd).1 ∧ InvC cI cT o (s_lay (cd, pl, df, tx, kp, rs) t kd).2 w') := by
  refine wd_met (cc := cX2_lay) (maxL := 5) (ret := (some .int)) (by decide) rfl (Nat.le_of_ble_eq_true rfl) ?_
  intro pg ev sg mi bl mt cde ls C0 hsz hK hW hl
  obtain ⟨hx, hb, hr, hml, hown, hts, hlocks, hnm⟩ := C0
  subst hsz
  have hown : sg.vm.findClass RX2 = some mi.cls := hown
  have hS : va_S (wd_A w sg.heap.size) sg.heap sg.heap [] := va_S.rf
  have hA : ∀ q, sg.heap.size ≤ q → wd_A w sg.heap.size q := fun q h => Or.inr h
  have hl : lv_has ls 5 [(0, .ref o), (1, .int t), (2, .int kd)] := hl
  obtain ⟨tA, kA, dr, drI, wk, wkI, sw, swI, aT, aI, Xd, hC⟩ := hI
  dsimp only at hC
  obtain ⟨Xw, hXw⟩ := hC.2.2.2.2.1
  obtain ⟨Xs, hXs⟩ := hC.2.2.2.2.2.1
  have hXd1 := hC.2.2.2.1.1.2.2.1
  have hdf := hC.2.2.2.1.2
  have hkp : kp.length ≤ 12 := hwf.2.2.1
  have hdl : df.length = Xd.2 := by rw [← hC.2.2.2.1.2, rl_len]
  have hdg : ∀ j, j < df.length → Xd.1 j = lf df j := fun j hj => by rw [← hdf, lf, rl_getD (by omega)]
  refine lv_iload_n hx hb dX2_lay_0 rfl (lv_at hl 1 rfl) ?_
  refine wd_callSi (As := [.int t]) (rest := []) (c2 := 0) (s2 := 0) ⟨hx, hb, hml, hown, hts⟩ (k_X2_isNoText l D cI cT w sg.heap.size t ) (va_cwS 1 hts gX2_lay_X2_isNoText rfl rfl rfl (by decide +kernel) ⟨Nat.le_of_ble_eq_true rfl, Nat.le_of_ble_eq_true rfl⟩) gK_ok hK hW hS hA rfl hl.1 rfl (Nat.le_of_ble_eq_true rfl) dX2_lay_1 ⟨Nat.le_of_ble_eq_true rfl, Nat.le_of_ble_eq_true rfl⟩ rfl rfl (fun r_1 w_1 H locs hp_1 hW hz hS => ?_)
  obtain ⟨q_r, q_w⟩ := hp_1
  subst r_1
  subst w_1
  refine lv_if_ne (tgt := 16) hx hb dX2_lay_4 (by decide) (fun c_4 => ?_) (fun c_4 => ?_)
  ·
    have c_4 := j_bn c_4
    refine lv_ldc (v := (-2000000001)) hx hb hown (hts (.constant RX2 47 (-2000000001)) (by decide +kernel)) dX2_lay_16 ?_
    refine W.widen (k := 2) (n := 242) (by omega) (by omega) ?_
    refine wd_iret hx hb hr hlocks hW hS dX2_lay_18 ?_
    have e9 : s_lay (cd, pl, df, tx, kp, rs) t kd = ((-2000000001), cd, pl, df, tx, kp, rs) := by simp only [s_lay, if_pos (Or.inl c_4)]
    show _ = (s_lay (cd, pl, df, tx, kp, rs) t kd).1 ∧ InvC cI cT o (s_lay (cd, pl, df, tx, kp, rs) t kd).2 _
    rw [e9]
    exact ⟨rfl, tA, kA, dr, drI, wk, wkI, sw, swI, aT, aI, Xd, hC⟩
  ·
    have c_4 := j_b0 c_4
    obtain ⟨tN, htN, htE⟩ := nt_spec c_4
    subst htE
    have hcl_t : (nI tN).toNatClampNeg = tN := nI_clamp (by omega)
    refine lv_iload_n hx hb dX2_lay_7 rfl (lv_at hl 2 rfl) ?_
    refine lv_if_lt (tgt := 16) hx hb dX2_lay_8 (by decide) (fun c_8 => ?_) (fun c_8 => ?_)
    ·
      refine lv_ldc (v := (-2000000001)) hx hb hown (hts (.constant RX2 47 (-2000000001)) (by decide +kernel)) dX2_lay_16 ?_
      refine W.widen (k := 2) (n := 242) (by omega) (by omega) ?_
      refine wd_iret hx hb hr hlocks hW hS dX2_lay_18 ?_
      have e9 : s_lay (cd, pl, df, tx, kp, rs) (nI tN) kd = ((-2000000001), cd, pl, df, tx, kp, rs) := by simp only [s_lay, if_pos (Or.inr (Or.inl c_8)), hcl_t]
      show _ = (s_lay (cd, pl, df, tx, kp, rs) (nI tN) kd).1 ∧ InvC cI cT o (s_lay (cd, pl, df, tx, kp, rs) (nI tN) kd).2 _
      rw [e9]
      exact ⟨rfl, tA, kA, dr, drI, wk, wkI, sw, swI, aT, aI, Xd, hC⟩
    ·
      refine lv_iload_n hx hb dX2_lay_11 rfl (lv_at hl 2 rfl) ?_
      refine lv_iconst (v := 2) hx hb dX2_lay_12 (by decide) ?_
      refine lv_icmp_le (tgt := 19) hx hb dX2_lay_13 (by decide) (fun c_13 => ?_) (fun c_13 => ?_)
      ·
        simp only [i_le, Decidable.not_not] at c_13
        refine lv_aload_n hx hb dX2_lay_19 rfl (lv_at hl 0 rfl) ?_
        refine wd_get (ci := 2) (v := .ref wk) (C := RX2) (T := TX2) (N := 8) hx hb hts (by decide +kernel) hown hK.1 hW hC.1 rfl 4 (by decide) (hts (.fieldLink RX2 31 "CharRows" "work" "LCharRows$Row;") (by decide +kernel)) (fun _ h9 => h9) rfl dX2_lay_20 ?_
        refine wd_callVv (As := []) (rest := []) (c2 := 0) (s2 := 0) ⟨hx, hb, hml, hown, hts⟩ (k_X0_empty l D cI cT w H.size wk wkI 240 Xw hXw) (cwV 0 hts gX2_lay_X0_empty rfl rfl rfl (by decide +kernel) ⟨Nat.le_of_ble_eq_true rfl, Nat.le_of_ble_eq_true rfl⟩) gK_ok hK hW (wd_recv (ci := 0) hK.1 hW rfl hXw.1) hS hA rfl hl.1 rfl (Nat.le_of_ble_eq_true rfl) dX2_lay_23 ⟨Nat.le_of_ble_eq_true rfl, Nat.le_of_ble_eq_true rfl⟩ rfl rfl (fun w_23 H locs hp_23 hW hz hS => ?_)
        subst w_23
        have hXs := hC.kWS (Y := r_nil Xw) hXs
        have hXw : rowAt (rowSet w wk wkI cI 240 (r_nil Xw)) wk wkI cI 240 (r_nil Xw) := rowSet_at hXw.ne (Nat.zero_le _) (by omega)
        have hC := hC.work (r_nil Xw) hXw.2.2.1
        have hXc_23 := hXw.2.2.1
        refine lv_iload_n hx hb dX2_lay_26 rfl (lv_at hl 2 rfl) ?_
        refine lv_iconst (v := 1) hx hb dX2_lay_27 (by decide) ?_
        refine lv_icmp_ne (tgt := 55) hx hb dX2_lay_28 (by decide) (fun c_28 => ?_) (fun c_28 => ?_)
        ·
          refine lv_iload_n hx hb dX2_lay_55 rfl (lv_at hl 2 rfl) ?_
          refine wd_callSi (As := [.int kd]) (rest := []) (c2 := 0) (s2 := 0) ⟨hx, hb, hml, hown, hts⟩ (k_X2_maskOf l D cI cT (rowSet w wk wkI cI 240 (r_nil Xw)) H.size kd ) (va_cwS 1 hts gX2_lay_X2_maskOf rfl rfl rfl (by decide +kernel) ⟨Nat.le_of_ble_eq_true rfl, Nat.le_of_ble_eq_true rfl⟩) gK_ok hK hW hS hA rfl hl.1 rfl (Nat.le_of_ble_eq_true rfl) dX2_lay_56 ⟨Nat.le_of_ble_eq_true rfl, Nat.le_of_ble_eq_true rfl⟩ rfl rfl (fun r_56 w_56 H locs hp_56 hW hz hS => ?_)
          obtain ⟨q_r, q_w⟩ := hp_56
          subst r_56
          subst w_56
          refine lv_istore_n (lv' := [(3, .int (j_mask kd)), (0, .ref o), (1, .int (nI tN)), (2, .int kd)]) hx hb dX2_lay_59 rfl hl (by decide) rfl (fun ls hl => ?_)
          refine lv_iconst (v := 0) hx hb dX2_lay_60 (by decide) ?_
          refine lv_istore (lv' := [(4, .int 0), (3, .int (j_mask kd)), (0, .ref o), (1, .int (nI tN)), (2, .int kd)]) hx hb dX2_lay_61 hl (by decide) rfl (fun ls hl => ?_)
          refine wd_loop1 (fun (j : Nat) (H : Heap) (locs : List Loc) (ls : Array Slot) => (j ≤ Xd.2) ∧ wd_P D vwCl (wd_A w sg.heap.size) (rowSet (rowSet w wk wkI cI 240 (r_nil Xw)) wk wkI cI 240 (itN (fun j X => r_add 240 (Xd.1 j &&& j_mask kd) X) j (r_nil Xw))) H ∧ va_S (wd_A w sg.heap.size) sg.heap H locs ∧ lv_has ls 5 [(0, .ref o), (1, .int (nI tN)), (2, .int kd), (3, .int (j_mask kd)), (4, .int (nI j))]) (fun (j : Nat) => Xd.2 - j) 0 ⟨(Nat.zero_le _), (by rw [show itN (fun j X => r_add 240 (Xd.1 j &&& j_mask kd) X) 0 (r_nil Xw) = r_nil Xw from rfl, rowSet_self hXw]; exact hW), hS, (lv_sub hl [2, 3, 4, 1, 0] rfl)⟩ (fun j H locs ls hI ih => ?_)
          obtain ⟨hj, hW, hS, hl⟩ := hI
          have hXs := hC.kWS (Y := itN (fun j X => r_add 240 (Xd.1 j &&& j_mask kd) X) j (r_nil Xw)) hXs
          have hXw : rowAt (rowSet (rowSet w wk wkI cI 240 (r_nil Xw)) wk wkI cI 240 (itN (fun j X => r_add 240 (Xd.1 j &&& j_mask kd) X) j (r_nil Xw))) wk wkI cI 240 (itN (fun j X => r_add 240 (Xd.1 j &&& j_mask kd) X) j (r_nil Xw)) := rowSet_at hXw.ne (itN_le (fun _ _ h => r_add_le h) _ _ (Nat.zero_le _)) (by omega)
          have hC := hC.work (itN (fun j X => r_add 240 (Xd.1 j &&& j_mask kd) X) j (r_nil Xw)) hXw.2.2.1
          have hXc_61 := hXw.2.2.1
          refine lv_iload hx hb dX2_lay_63 (lv_at hl 4 rfl) ?_
          refine lv_aload_n hx hb dX2_lay_65 rfl (lv_at hl 0 rfl) ?_
          refine wd_get (ci := 2) (v := .ref dr) (C := RX2) (T := TX2) (N := 8) hx hb hts (by decide +kernel) hown hK.1 hW hC.1 rfl 3 (by decide) (hts (.fieldLink RX2 27 "CharRows" "draft" "LCharRows$Row;") (by decide +kernel)) (fun _ h9 => h9) rfl dX2_lay_66 ?_
          refine wd_get (ci := 0) (v := .int (nI Xd.2)) (C := RX0) (T := TX0) (N := 2) hx hb hts (by decide +kernel) hown hK.1 hW hC.2.2.2.1.1.1 rfl 1 (by decide) (hts (.fieldLink RX2 48 "CharRows$Row" "count" "I") (by decide +kernel)) (fun _ h9 => h9) rfl dX2_lay_69 ?_
          refine lv_icmp_ge (tgt := 113) hx hb dX2_lay_72 (by decide) (fun c_72 => ?_) (fun c_72 => ?_)
          ·
            have c_72 : Xd.2 ≤ j := (nI_leI (by omega) (by omega)).mp (show (nI Xd.2 ≤ nI j) from c_72)
            refine lv_aload_n hx hb dX2_lay_113 rfl (lv_at hl 0 rfl) ?_
            refine lv_iload_n hx hb dX2_lay_114 rfl (lv_at hl 1 rfl) ?_
            refine lv_iload_n hx hb dX2_lay_115 rfl (lv_at hl 2 rfl) ?_
            refine lv_aload_n hx hb dX2_lay_116 rfl (lv_at hl 0 rfl) ?_
            refine wd_get (ci := 2) (v := .ref wk) (C := RX2) (T := TX2) (N := 8) hx hb hts (by decide +kernel) hown hK.1 hW hC.1 rfl 4 (by decide) (hts (.fieldLink RX2 31 "CharRows" "work" "LCharRows$Row;") (by decide +kernel)) (fun _ h9 => h9) rfl dX2_lay_117 ?_
            refine wd_callVi (As := [.int (nI tN), .int kd, .ref wk]) (rest := []) (c2 := 2) (s2 := 242) ⟨hx, hb, hml, hown, hts⟩ (k_X2_setText l D cI cT (rowSet (rowSet w wk wkI cI 240 (r_nil Xw)) wk wkI cI 240 (itN (fun j X => r_add 240 (Xd.1 j &&& j_mask kd) X) j (r_nil Xw))) H.size o tA kA (nI kp.length) dr wk sw cd pl (fun t => (tx t).map aT) tN kd wk wkI 240 (itN (fun j X => r_add 240 (Xd.1 j &&& j_mask kd) X) j (r_nil Xw)) hC.1 hC.2.1 (by omega) hXw) (cwV 3 hts gX2_lay_X2_setText rfl rfl rfl (by decide +kernel) ⟨Nat.le_of_ble_eq_true rfl, Nat.le_of_ble_eq_true rfl⟩) gK_ok hK hW (wd_recv (ci := 2) hK.1 hW rfl hC.1) hS hA rfl hl.1 rfl (Nat.le_of_ble_eq_true rfl) dX2_lay_120 ⟨Nat.le_of_ble_eq_true rfl, Nat.le_of_ble_eq_true rfl⟩ rfl rfl (fun r_120 w_120 H locs hp_120 hW hz hS => ?_)
            obtain ⟨q_r, q_e⟩ := hp_120
            subst r_120
            obtain ⟨w_s, aT', aI', hW, hC⟩ := c_setText hC (u_free_spec hwf.2.1 hwf.2.2.1).1 q_e hW
            refine wd_iret hx hb hr hlocks hW hS dX2_lay_123 ?_
            have e9 : s_lay (cd, pl, df, tx, kp, rs) (nI tN) kd = (nI ((itN (fun j X => r_add 240 (Xd.1 j &&& j_mask kd) X) j (r_nil Xw)).2), 0, pl, df, (va_up tx tN (some (u_free tx kp))), kp, (va_up rs (u_free tx kp) (kd, rl (itN (fun j X => r_add 240 (Xd.1 j &&& j_mask kd) X) j (r_nil Xw))))) := by simp only [s_lay, if_neg (not_or.mpr ⟨c_4, (not_or.mpr ⟨c_8, c_13⟩)⟩), s_mk, if_neg c_28, hcl_t]; rw [show df.map (fun x => x &&& j_mask kd) = rl (itN (fun j X => r_add 240 (Xd.1 j &&& j_mask kd) X) j (r_nil Xw)) from by rw [show j = Xd.2 by omega, rl_mask (by omega), hdf], rl_len]
            show _ = (s_lay (cd, pl, df, tx, kp, rs) (nI tN) kd).1 ∧ InvC cI cT o (s_lay (cd, pl, df, tx, kp, rs) (nI tN) kd).2 _
            rw [e9]
            exact ⟨rfl, tA, kA, dr, drI, wk, wkI, sw, swI, aT', aI', Xd, hC⟩
          ·
            have c_72 : ¬ (Xd.2 ≤ j) := fun q9 => absurd ((nI_leI (by omega) (by omega)).mpr q9) (show ¬ (nI Xd.2 ≤ nI j) from c_72)
            refine lv_iload hx hb dX2_lay_75 (lv_at hl 4 rfl) ?_
            refine lv_aload_n hx hb dX2_lay_77 rfl (lv_at hl 0 rfl) ?_
            refine wd_get (ci := 2) (v := .ref dr) (C := RX2) (T := TX2) (N := 8) hx hb hts (by decide +kernel) hown hK.1 hW hC.1 rfl 3 (by decide) (hts (.fieldLink RX2 27 "CharRows" "draft" "LCharRows$Row;") (by decide +kernel)) (fun _ h9 => h9) rfl dX2_lay_78 ?_
            refine wd_get (ci := 0) (v := .ref drI) (C := RX0) (T := TX0) (N := 2) hx hb hts (by decide +kernel) hown hK.1 hW hC.2.2.2.1.1.1 rfl 0 (by decide) (hts (.fieldLink RX2 74 "CharRows$Row" "items" "[I") (by decide +kernel)) (fun _ h9 => h9) rfl dX2_lay_81 ?_
            refine wd_alen hx hb hK.1 hW 0 hC.2.2.2.1.1.2.1 rfl dX2_lay_84 ?_
            refine lv_icmp_ge (tgt := 113) hx hb dX2_lay_85 (by decide) (fun c_85 => ?_) (fun c_85 => ?_)
            ·
              have c_85 : 60 ≤ j := (nI_leI (by omega) (by omega)).mp (show (nI 60 ≤ nI j) from c_85)
              refine lv_aload_n hx hb dX2_lay_113 rfl (lv_at hl 0 rfl) ?_
              refine lv_iload_n hx hb dX2_lay_114 rfl (lv_at hl 1 rfl) ?_
              refine lv_iload_n hx hb dX2_lay_115 rfl (lv_at hl 2 rfl) ?_
              refine lv_aload_n hx hb dX2_lay_116 rfl (lv_at hl 0 rfl) ?_
              refine wd_get (ci := 2) (v := .ref wk) (C := RX2) (T := TX2) (N := 8) hx hb hts (by decide +kernel) hown hK.1 hW hC.1 rfl 4 (by decide) (hts (.fieldLink RX2 31 "CharRows" "work" "LCharRows$Row;") (by decide +kernel)) (fun _ h9 => h9) rfl dX2_lay_117 ?_
              refine wd_callVi (As := [.int (nI tN), .int kd, .ref wk]) (rest := []) (c2 := 2) (s2 := 242) ⟨hx, hb, hml, hown, hts⟩ (k_X2_setText l D cI cT (rowSet (rowSet w wk wkI cI 240 (r_nil Xw)) wk wkI cI 240 (itN (fun j X => r_add 240 (Xd.1 j &&& j_mask kd) X) j (r_nil Xw))) H.size o tA kA (nI kp.length) dr wk sw cd pl (fun t => (tx t).map aT) tN kd wk wkI 240 (itN (fun j X => r_add 240 (Xd.1 j &&& j_mask kd) X) j (r_nil Xw)) hC.1 hC.2.1 (by omega) hXw) (cwV 3 hts gX2_lay_X2_setText rfl rfl rfl (by decide +kernel) ⟨Nat.le_of_ble_eq_true rfl, Nat.le_of_ble_eq_true rfl⟩) gK_ok hK hW (wd_recv (ci := 2) hK.1 hW rfl hC.1) hS hA rfl hl.1 rfl (Nat.le_of_ble_eq_true rfl) dX2_lay_120 ⟨Nat.le_of_ble_eq_true rfl, Nat.le_of_ble_eq_true rfl⟩ rfl rfl (fun r_120 w_120 H locs hp_120 hW hz hS => ?_)
              obtain ⟨q_r, q_e⟩ := hp_120
              subst r_120
              obtain ⟨w_s, aT', aI', hW, hC⟩ := c_setText hC (u_free_spec hwf.2.1 hwf.2.2.1).1 q_e hW
              refine wd_iret hx hb hr hlocks hW hS dX2_lay_123 ?_
              have e9 : s_lay (cd, pl, df, tx, kp, rs) (nI tN) kd = (nI ((itN (fun j X => r_add 240 (Xd.1 j &&& j_mask kd) X) j (r_nil Xw)).2), 0, pl, df, (va_up tx tN (some (u_free tx kp))), kp, (va_up rs (u_free tx kp) (kd, rl (itN (fun j X => r_add 240 (Xd.1 j &&& j_mask kd) X) j (r_nil Xw))))) := by simp only [s_lay, if_neg (not_or.mpr ⟨c_4, (not_or.mpr ⟨c_8, c_13⟩)⟩), s_mk, if_neg c_28, hcl_t]; rw [show df.map (fun x => x &&& j_mask kd) = rl (itN (fun j X => r_add 240 (Xd.1 j &&& j_mask kd) X) j (r_nil Xw)) from by rw [show j = Xd.2 by omega, rl_mask (by omega), hdf], rl_len]
              show _ = (s_lay (cd, pl, df, tx, kp, rs) (nI tN) kd).1 ∧ InvC cI cT o (s_lay (cd, pl, df, tx, kp, rs) (nI tN) kd).2 _
              rw [e9]
              exact ⟨rfl, tA, kA, dr, drI, wk, wkI, sw, swI, aT', aI', Xd, hC⟩
            ·
              have c_85 : ¬ (60 ≤ j) := fun q9 => absurd ((nI_leI (by omega) (by omega)).mpr q9) (show ¬ (nI 60 ≤ nI j) from c_85)
              refine lv_aload_n hx hb dX2_lay_88 rfl (lv_at hl 0 rfl) ?_
              refine wd_get (ci := 2) (v := .ref wk) (C := RX2) (T := TX2) (N := 8) hx hb hts (by decide +kernel) hown hK.1 hW hC.1 rfl 4 (by decide) (hts (.fieldLink RX2 31 "CharRows" "work" "LCharRows$Row;") (by decide +kernel)) (fun _ h9 => h9) rfl dX2_lay_89 ?_
              refine lv_aload_n hx hb dX2_lay_92 rfl (lv_at hl 0 rfl) ?_
              refine wd_get (ci := 2) (v := .ref dr) (C := RX2) (T := TX2) (N := 8) hx hb hts (by decide +kernel) hown hK.1 hW hC.1 rfl 3 (by decide) (hts (.fieldLink RX2 27 "CharRows" "draft" "LCharRows$Row;") (by decide +kernel)) (fun _ h9 => h9) rfl dX2_lay_93 ?_
              refine wd_get (ci := 0) (v := .ref drI) (C := RX0) (T := TX0) (N := 2) hx hb hts (by decide +kernel) hown hK.1 hW hC.2.2.2.1.1.1 rfl 0 (by decide) (hts (.fieldLink RX2 74 "CharRows$Row" "items" "[I") (by decide +kernel)) (fun _ h9 => h9) rfl dX2_lay_96 ?_
              refine lv_iload hx hb dX2_lay_99 (lv_at hl 4 rfl) ?_
              refine wd_iald hx hb hK.1 hW 0 hC.2.2.2.1.1.2.1 rfl (vp_in_nI (by omega) (by omega)) dX2_lay_101 ?_
              refine wd_topE (y := Xd.1 j) (by rw [nI_clamp (by omega)]) ?_
              refine lv_iload_n hx hb dX2_lay_102 rfl (lv_at hl 3 rfl) ?_
              refine lv_iand hx hb dX2_lay_103 ?_
              refine wd_callVv (As := [.int ((Xd.1 j) &&& (j_mask kd))]) (rest := []) (c2 := 0) (s2 := 0) ⟨hx, hb, hml, hown, hts⟩ (k_X0_add l D cI cT (rowSet (rowSet w wk wkI cI 240 (r_nil Xw)) wk wkI cI 240 (itN (fun j X => r_add 240 (Xd.1 j &&& j_mask kd) X) j (r_nil Xw))) H.size wk wkI 240 (itN (fun j X => r_add 240 (Xd.1 j &&& j_mask kd) X) j (r_nil Xw)) ((Xd.1 j) &&& (j_mask kd)) hXw) (cwV 1 hts gX2_lay_X0_add rfl rfl rfl (by decide +kernel) ⟨Nat.le_of_ble_eq_true rfl, Nat.le_of_ble_eq_true rfl⟩) gK_ok hK hW (wd_recv (ci := 0) hK.1 hW rfl hXw.1) hS hA rfl hl.1 rfl (Nat.le_of_ble_eq_true rfl) dX2_lay_104 ⟨Nat.le_of_ble_eq_true rfl, Nat.le_of_ble_eq_true rfl⟩ rfl rfl (fun w_104 H locs hp_104 hW hz hS => ?_)
              subst w_104
              have hXs := hC.kWS (Y := r_add 240 ((Xd.1 j) &&& (j_mask kd)) (itN (fun j X => r_add 240 (Xd.1 j &&& j_mask kd) X) j (r_nil Xw))) hXs
              have hXw : rowAt (rowSet (rowSet (rowSet w wk wkI cI 240 (r_nil Xw)) wk wkI cI 240 (itN (fun j X => r_add 240 (Xd.1 j &&& j_mask kd) X) j (r_nil Xw))) wk wkI cI 240 (r_add 240 ((Xd.1 j) &&& (j_mask kd)) (itN (fun j X => r_add 240 (Xd.1 j &&& j_mask kd) X) j (r_nil Xw)))) wk wkI cI 240 (r_add 240 ((Xd.1 j) &&& (j_mask kd)) (itN (fun j X => r_add 240 (Xd.1 j &&& j_mask kd) X) j (r_nil Xw))) := rowSet_at hXw.ne (r_add_le hXw.2.2.1) (by omega)
              have hC := hC.work (r_add 240 ((Xd.1 j) &&& (j_mask kd)) (itN (fun j X => r_add 240 (Xd.1 j &&& j_mask kd) X) j (r_nil Xw))) hXw.2.2.1
              have hXc_104 := hXw.2.2.1
              refine lv_iinc (v := nI (j + 1)) (lv' := [(4, .int (nI (j + 1))), (0, .ref o), (1, .int (nI tN)), (2, .int kd), (3, .int (j_mask kd))]) hx hb dX2_lay_107 hl (k := 4) rfl (nI_add j 1) (by decide) rfl (fun ls hl => ?_)
              refine lv_goto (tgt := 63) hx hb dX2_lay_110 (by decide) ?_
              rw [rowSet_twice] at hW
              exact ih (j + 1) H locs ls ⟨(by omega), hW, hS, (lv_sub hl [1, 2, 3, 4, 0] rfl)⟩ (by omega)
        ·
          refine lv_aload_n hx hb dX2_lay_31 rfl (lv_at hl 0 rfl) ?_
          refine wd_get (ci := 2) (v := .ref wk) (C := RX2) (T := TX2) (N := 8) hx hb hts (by decide +kernel) hown hK.1 hW hC.1 rfl 4 (by decide) (hts (.fieldLink RX2 31 "CharRows" "work" "LCharRows$Row;") (by decide +kernel)) (fun _ h9 => h9) rfl dX2_lay_32 ?_
          refine lv_aload_n hx hb dX2_lay_35 rfl (lv_at hl 0 rfl) ?_
          refine wd_get (ci := 2) (v := .ref dr) (C := RX2) (T := TX2) (N := 8) hx hb hts (by decide +kernel) hown hK.1 hW hC.1 rfl 3 (by decide) (hts (.fieldLink RX2 27 "CharRows" "draft" "LCharRows$Row;") (by decide +kernel)) (fun _ h9 => h9) rfl dX2_lay_36 ?_
          refine wd_get (ci := 0) (v := .ref drI) (C := RX0) (T := TX0) (N := 2) hx hb hts (by decide +kernel) hown hK.1 hW hC.2.2.2.1.1.1 rfl 0 (by decide) (hts (.fieldLink RX2 74 "CharRows$Row" "items" "[I") (by decide +kernel)) (fun _ h9 => h9) rfl dX2_lay_39 ?_
          refine lv_aload_n hx hb dX2_lay_42 rfl (lv_at hl 0 rfl) ?_
          refine wd_get (ci := 2) (v := .ref dr) (C := RX2) (T := TX2) (N := 8) hx hb hts (by decide +kernel) hown hK.1 hW hC.1 rfl 3 (by decide) (hts (.fieldLink RX2 27 "CharRows" "draft" "LCharRows$Row;") (by decide +kernel)) (fun _ h9 => h9) rfl dX2_lay_43 ?_
          refine wd_get (ci := 0) (v := .int (nI Xd.2)) (C := RX0) (T := TX0) (N := 2) hx hb hts (by decide +kernel) hown hK.1 hW hC.2.2.2.1.1.1 rfl 1 (by decide) (hts (.fieldLink RX2 48 "CharRows$Row" "count" "I") (by decide +kernel)) (fun _ h9 => h9) rfl dX2_lay_46 ?_
          refine wd_callVv (As := [.ref drI, .int (nI Xd.2)]) (rest := []) (c2 := 0) (s2 := 0) ⟨hx, hb, hml, hown, hts⟩ (k_X0_addPointsOf l D cI cT (rowSet w wk wkI cI 240 (r_nil Xw)) H.size wk wkI 240 (r_nil Xw) drI 60 Xd.1 Xd.2 hXw hC.2.2.2.1.1.2.1 (by omega) hC.2.2.2.2.2.2.1.2.2.2.2.1 (by omega)) (cwV 2 hts gX2_lay_X0_addPointsOf rfl rfl rfl (by decide +kernel) ⟨Nat.le_of_ble_eq_true rfl, Nat.le_of_ble_eq_true rfl⟩) gK_ok hK hW (wd_recv (ci := 0) hK.1 hW rfl hXw.1) hS hA rfl hl.1 rfl (Nat.le_of_ble_eq_true rfl) dX2_lay_49 ⟨Nat.le_of_ble_eq_true rfl, Nat.le_of_ble_eq_true rfl⟩ rfl rfl (fun w_49 H locs hp_49 hW hz hS => ?_)
          subst w_49
          have hXs := hC.kWS (Y := r_pts 240 Xd.1 60 Xd.2 (r_nil Xw)) hXs
          have hXw : rowAt (rowSet (rowSet w wk wkI cI 240 (r_nil Xw)) wk wkI cI 240 (r_pts 240 Xd.1 60 Xd.2 (r_nil Xw))) wk wkI cI 240 (r_pts 240 Xd.1 60 Xd.2 (r_nil Xw)) := rowSet_at hXw.ne (r_pts_le hXw.2.2.1) (by omega)
          have hC := hC.work (r_pts 240 Xd.1 60 Xd.2 (r_nil Xw)) hXw.2.2.1
          have hXc_49 := hXw.2.2.1
          refine lv_goto (tgt := 113) hx hb dX2_lay_52 (by decide) ?_
          refine lv_aload_n hx hb dX2_lay_113 rfl (lv_at hl 0 rfl) ?_
          refine lv_iload_n hx hb dX2_lay_114 rfl (lv_at hl 1 rfl) ?_
          refine lv_iload_n hx hb dX2_lay_115 rfl (lv_at hl 2 rfl) ?_
          refine lv_aload_n hx hb dX2_lay_116 rfl (lv_at hl 0 rfl) ?_
          refine wd_get (ci := 2) (v := .ref wk) (C := RX2) (T := TX2) (N := 8) hx hb hts (by decide +kernel) hown hK.1 hW hC.1 rfl 4 (by decide) (hts (.fieldLink RX2 31 "CharRows" "work" "LCharRows$Row;") (by decide +kernel)) (fun _ h9 => h9) rfl dX2_lay_117 ?_
          refine wd_callVi (As := [.int (nI tN), .int kd, .ref wk]) (rest := []) (c2 := 2) (s2 := 242) ⟨hx, hb, hml, hown, hts⟩ (k_X2_setText l D cI cT (rowSet (rowSet w wk wkI cI 240 (r_nil Xw)) wk wkI cI 240 (r_pts 240 Xd.1 60 Xd.2 (r_nil Xw))) H.size o tA kA (nI kp.length) dr wk sw cd pl (fun t => (tx t).map aT) tN kd wk wkI 240 (r_pts 240 Xd.1 60 Xd.2 (r_nil Xw)) hC.1 hC.2.1 (by omega) hXw) (cwV 3 hts gX2_lay_X2_setText rfl rfl rfl (by decide +kernel) ⟨Nat.le_of_ble_eq_true rfl, Nat.le_of_ble_eq_true rfl⟩) gK_ok hK hW (wd_recv (ci := 2) hK.1 hW rfl hC.1) hS hA rfl hl.1 rfl (Nat.le_of_ble_eq_true rfl) dX2_lay_120 ⟨Nat.le_of_ble_eq_true rfl, Nat.le_of_ble_eq_true rfl⟩ rfl rfl (fun r_120 w_120 H locs hp_120 hW hz hS => ?_)
          obtain ⟨q_r, q_e⟩ := hp_120
          subst r_120
          obtain ⟨w_s, aT', aI', hW, hC⟩ := c_setText hC (u_free_spec hwf.2.1 hwf.2.2.1).1 q_e hW
          refine wd_iret hx hb hr hlocks hW hS dX2_lay_123 ?_
          have e9 : s_lay (cd, pl, df, tx, kp, rs) (nI tN) kd = (nI ((r_pts 240 Xd.1 60 Xd.2 (r_nil Xw)).2), 0, pl, df, (va_up tx tN (some (u_free tx kp))), kp, (va_up rs (u_free tx kp) (kd, rl (r_pts 240 Xd.1 60 Xd.2 (r_nil Xw))))) := by simp only [s_lay, if_neg (not_or.mpr ⟨c_4, (not_or.mpr ⟨c_8, c_13⟩)⟩), s_mk, if_pos c_28, hcl_t]; rw [show u_pts df = rl (r_pts 240 Xd.1 60 Xd.2 (r_nil Xw)) from by rw [← hdl, rl_pts' (xs := df) hdg (by omega) (by omega) (by rw [r_nil]; omega), rl_nil, List.nil_append], rl_len]
          show _ = (s_lay (cd, pl, df, tx, kp, rs) (nI tN) kd).1 ∧ InvC cI cT o (s_lay (cd, pl, df, tx, kp, rs) (nI tN) kd).2 _
          rw [e9]
          exact ⟨rfl, tA, kA, dr, drI, wk, wkI, sw, swI, aT', aI', Xd, hC⟩
      ·
        simp only [i_le, Decidable.not_not] at c_13
        refine lv_ldc (v := (-2000000001)) hx hb hown (hts (.constant RX2 47 (-2000000001)) (by decide +kernel)) dX2_lay_16 ?_
        refine W.widen (k := 2) (n := 242) (by omega) (by omega) ?_
        refine wd_iret hx hb hr hlocks hW hS dX2_lay_18 ?_
        have e9 : s_lay (cd, pl, df, tx, kp, rs) (nI tN) kd = ((-2000000001), cd, pl, df, tx, kp, rs) := by simp only [s_lay, if_pos (Or.inr (Or.inr c_13)), hcl_t]
        show _ = (s_lay (cd, pl, df, tx, kp, rs) (nI tN) kd).1 ∧ InvC cI cT o (s_lay (cd, pl, df, tx, kp, rs) (nI tN) kd).2 _
        rw [e9]
        exact ⟨rfl, tA, kA, dr, drI, wk, wkI, sw, swI, aT, aI, Xd, hC⟩
set_option maxHeartbeats 4000000 in
set_option maxRecDepth 100000 in
theorem k_X2_turnInto (l : Launch) (D : va_G) (cI cT : ClassId) (w : Wd) (sz : Nat) (o : Nat) (cd : Int32) (pl : Int32) (df : List Int32) (tx : Nat → Option Nat) (kp : List Nat) (rs : Rws) (t : Int32) (u : Int32) (way : Int32) (hwf : WF (cd, pl, df, tx, kp, rs)) (hI : InvC cI cT o (cd, pl, df, tx, kp, rs) w) : wd_Mi l D vwCl (gK D cI cT) yX2_turnInto wsX2_turnInto (wd_rm 4 2 242) [.ref o, .int t, .int u, .int way] w sz (fun r w' => r = (s_turnInto (cd, pl, df, tx, kp, rs) t u way).1 ∧ InvC cI cT o (s_turnInto (cd, pl, df, tx, kp, rs) t u way).2 w') := by
  refine wd_met (cc := cX2_turnInto) (maxL := 5) (ret := (some .int)) (by decide) rfl (Nat.le_of_ble_eq_true rfl) ?_
  intro pg ev sg mi bl mt cde ls C0 hsz hK hW hl
  obtain ⟨hx, hb, hr, hml, hown, hts, hlocks, hnm⟩ := C0
  subst hsz
  have hown : sg.vm.findClass RX2 = some mi.cls := hown
  have hS : va_S (wd_A w sg.heap.size) sg.heap sg.heap [] := va_S.rf
  have hA : ∀ q, sg.heap.size ≤ q → wd_A w sg.heap.size q := fun q h => Or.inr h
  have hl : lv_has ls 5 [(0, .ref o), (1, .int t), (2, .int u), (3, .int way)] := hl
  obtain ⟨tA, kA, dr, drI, wk, wkI, sw, swI, aT, aI, Xd, hC⟩ := hI
  dsimp only at hC
  obtain ⟨Xw, hXw⟩ := hC.2.2.2.2.1
  obtain ⟨Xs, hXs⟩ := hC.2.2.2.2.2.1
  have hXd1 := hC.2.2.2.1.1.2.2.1
  have hdf := hC.2.2.2.1.2
  have hkp : kp.length ≤ 12 := hwf.2.2.1
  have hdl : df.length = Xd.2 := by rw [← hC.2.2.2.1.2, rl_len]
  have hdg : ∀ j, j < df.length → Xd.1 j = lf df j := fun j hj => by rw [← hdf, lf, rl_getD (by omega)]
  refine lv_iload_n hx hb dX2_turnInto_0 rfl (lv_at hl 1 rfl) ?_
  refine wd_callSi (As := [.int t]) (rest := []) (c2 := 0) (s2 := 0) ⟨hx, hb, hml, hown, hts⟩ (k_X2_isNoText l D cI cT w sg.heap.size t ) (va_cwS 1 hts gX2_turnInto_X2_isNoText rfl rfl rfl (by decide +kernel) ⟨Nat.le_of_ble_eq_true rfl, Nat.le_of_ble_eq_true rfl⟩) gK_ok hK hW hS hA rfl hl.1 rfl (Nat.le_of_ble_eq_true rfl) dX2_turnInto_1 ⟨Nat.le_of_ble_eq_true rfl, Nat.le_of_ble_eq_true rfl⟩ rfl rfl (fun r_1 w_1 H locs hp_1 hW hz hS => ?_)
  obtain ⟨q_r, q_w⟩ := hp_1
  subst r_1
  subst w_1
  refine lv_if_ne (tgt := 21) hx hb dX2_turnInto_4 (by decide) (fun c_4 => ?_) (fun c_4 => ?_)
  ·
    have c_4 := j_bn c_4
    refine lv_ldc (v := (-2000000001)) hx hb hown (hts (.constant RX2 47 (-2000000001)) (by decide +kernel)) dX2_turnInto_21 ?_
    refine W.widen (k := 2) (n := 242) (by omega) (by omega) ?_
    refine wd_iret hx hb hr hlocks hW hS dX2_turnInto_23 ?_
    have e9 : s_turnInto (cd, pl, df, tx, kp, rs) t u way = ((-2000000001), cd, pl, df, tx, kp, rs) := by simp only [s_turnInto, if_pos (Or.inl c_4), s_w1, s_no, s_mk]
    show _ = (s_turnInto (cd, pl, df, tx, kp, rs) t u way).1 ∧ InvC cI cT o (s_turnInto (cd, pl, df, tx, kp, rs) t u way).2 _
    rw [e9]
    exact ⟨rfl, tA, kA, dr, drI, wk, wkI, sw, swI, aT, aI, Xd, hC⟩
  ·
    have c_4 := j_b0 c_4
    obtain ⟨tN, htN, htE⟩ := nt_spec c_4
    subst htE
    have hcl_t : (nI tN).toNatClampNeg = tN := nI_clamp (by omega)
    refine lv_iload_n hx hb dX2_turnInto_7 rfl (lv_at hl 2 rfl) ?_
    refine wd_callSi (As := [.int u]) (rest := []) (c2 := 0) (s2 := 0) ⟨hx, hb, hml, hown, hts⟩ (k_X2_isNoText l D cI cT w H.size u ) (va_cwS 1 hts gX2_turnInto_X2_isNoText rfl rfl rfl (by decide +kernel) ⟨Nat.le_of_ble_eq_true rfl, Nat.le_of_ble_eq_true rfl⟩) gK_ok hK hW hS hA rfl hl.1 rfl (Nat.le_of_ble_eq_true rfl) dX2_turnInto_8 ⟨Nat.le_of_ble_eq_true rfl, Nat.le_of_ble_eq_true rfl⟩ rfl rfl (fun r_8 w_8 H locs hp_8 hW hz hS => ?_)
    obtain ⟨q_r, q_w⟩ := hp_8
    subst r_8
    subst w_8
    refine lv_if_ne (tgt := 21) hx hb dX2_turnInto_11 (by decide) (fun c_11 => ?_) (fun c_11 => ?_)
    ·
      have c_11 := j_bn c_11
      refine lv_ldc (v := (-2000000001)) hx hb hown (hts (.constant RX2 47 (-2000000001)) (by decide +kernel)) dX2_turnInto_21 ?_
      refine W.widen (k := 2) (n := 242) (by omega) (by omega) ?_
      refine wd_iret hx hb hr hlocks hW hS dX2_turnInto_23 ?_
      have e9 : s_turnInto (cd, pl, df, tx, kp, rs) (nI tN) u way = ((-2000000001), cd, pl, df, tx, kp, rs) := by simp only [s_turnInto, if_pos (Or.inr (Or.inl c_11)), s_w1, s_no, s_mk, hcl_t]
      show _ = (s_turnInto (cd, pl, df, tx, kp, rs) (nI tN) u way).1 ∧ InvC cI cT o (s_turnInto (cd, pl, df, tx, kp, rs) (nI tN) u way).2 _
      rw [e9]
      exact ⟨rfl, tA, kA, dr, drI, wk, wkI, sw, swI, aT, aI, Xd, hC⟩
    ·
      have c_11 := j_b0 c_11
      obtain ⟨uN, huN, huE⟩ := nt_spec c_11
      subst huE
      have hcl_u : (nI uN).toNatClampNeg = uN := nI_clamp (by omega)
      refine lv_iload_n hx hb dX2_turnInto_14 rfl (lv_at hl 3 rfl) ?_
      refine wd_callSi (As := [.int way]) (rest := []) (c2 := 0) (s2 := 0) ⟨hx, hb, hml, hown, hts⟩ (k_X2_isNoWay l D cI cT w H.size way ) (va_cwS 1 hts gX2_turnInto_X2_isNoWay rfl rfl rfl (by decide +kernel) ⟨Nat.le_of_ble_eq_true rfl, Nat.le_of_ble_eq_true rfl⟩) gK_ok hK hW hS hA rfl hl.1 rfl (Nat.le_of_ble_eq_true rfl) dX2_turnInto_15 ⟨Nat.le_of_ble_eq_true rfl, Nat.le_of_ble_eq_true rfl⟩ rfl rfl (fun r_15 w_15 H locs hp_15 hW hz hS => ?_)
      obtain ⟨q_r, q_w⟩ := hp_15
      subst r_15
      subst w_15
      refine lv_if_eq (tgt := 24) hx hb dX2_turnInto_18 (by decide) (fun c_18 => ?_) (fun c_18 => ?_)
      ·
        have c_18 := j_b0 c_18
        refine lv_aload_n hx hb dX2_turnInto_24 rfl (lv_at hl 0 rfl) ?_
        refine wd_get (ci := 2) (v := .ref tA) (C := RX2) (T := TX2) (N := 8) hx hb hts (by decide +kernel) hown hK.1 hW hC.1 rfl 0 (by decide) (hts (.fieldLink RX2 11 "CharRows" "texts" "[LCharRows$Text;") (by decide +kernel)) (fun _ h9 => h9) rfl dX2_turnInto_25 ?_
        refine lv_iload_n hx hb dX2_turnInto_28 rfl (lv_at hl 2 rfl) ?_
        refine wd_aldq hx hb hK.1 hW 1 hC.2.1 rfl (vp_in_nI (by omega) (by omega)) dX2_turnInto_29 ?_
        rw [nI_clamp (by omega)]
        cases htx_29 : tx uN with
        | none =>
          refine wd_topR (y := .null) (by simp [htx_29, va_rf]) ?_
          refine lv_astoreN (lv' := [(4, .null), (0, .ref o), (1, .int (nI tN)), (2, .int (nI uN)), (3, .int way)]) hx hb dX2_turnInto_30 hl (by decide) rfl (fun ls hl => ?_)
          refine lv_aloadN hx hb dX2_turnInto_32 (lv_at hl 0 rfl) ?_
          refine lv_ifnonnullN hx hb dX2_turnInto_34 ?_
          refine lv_aload_n hx hb dX2_turnInto_37 rfl (lv_at hl 1 rfl) ?_
          refine lv_iconst (v := 1) hx hb dX2_turnInto_38 (by decide) ?_
          refine wd_callVi (As := [.int 1]) (rest := []) (c2 := 0) (s2 := 0) ⟨hx, hb, hml, hown, hts⟩ (k_X2_refuse l D cI cT w H.size o tA kA (nI kp.length) dr wk sw cd pl 1 hC.1) (cwV 1 hts gX2_turnInto_X2_refuse rfl rfl rfl (by decide +kernel) ⟨Nat.le_of_ble_eq_true rfl, Nat.le_of_ble_eq_true rfl⟩) gK_ok hK hW (wd_recv (ci := 2) hK.1 hW rfl hC.1) hS hA rfl hl.1 rfl (Nat.le_of_ble_eq_true rfl) dX2_turnInto_39 ⟨Nat.le_of_ble_eq_true rfl, Nat.le_of_ble_eq_true rfl⟩ rfl rfl (fun r_39 w_39 H locs hp_39 hW hz hS => ?_)
          obtain ⟨q_r, q_w⟩ := hp_39
          subst r_39
          subst w_39
          have hC := hC.obj 1 pl
          refine W.widen (k := 2) (n := 242) (by omega) (by omega) ?_
          refine wd_iret hx hb hr hlocks hW hS dX2_turnInto_42 ?_
          have e9 : s_turnInto (cd, pl, df, tx, kp, rs) (nI tN) (nI uN) way = (0, 1, pl, df, tx, kp, rs) := by simp only [s_turnInto, if_neg (not_or.mpr ⟨c_4, (not_or.mpr ⟨c_11, c_18⟩)⟩), s_w1, s_no, s_mk, hcl_t, hcl_u, htx_29]
          show _ = (s_turnInto (cd, pl, df, tx, kp, rs) (nI tN) (nI uN) way).1 ∧ InvC cI cT o (s_turnInto (cd, pl, df, tx, kp, rs) (nI tN) (nI uN) way).2 _
          rw [e9]
          exact ⟨rfl, tA, kA, dr, drI, wk, wkI, sw, swI, aT, aI, Xd, hC⟩
        | some r_29 =>
          refine wd_topR (y := .ref (aT r_29)) (by simp [htx_29, va_rf]) ?_
          have hl_29 : live tx kp r_29 := Or.inl ⟨_, htx_29⟩
          have hok_29 : rOK (rs r_29) := (hwf.2.2.2.1 r_29 hl_29).2
          have hlen_29 := hok_29.len
          refine lv_astore (lv' := [(4, .ref (aT r_29)), (0, .ref o), (1, .int (nI tN)), (2, .int (nI uN)), (3, .int way)]) hx hb dX2_turnInto_30 hl (by decide) rfl (fun ls hl => ?_)
          refine lv_aload hx hb dX2_turnInto_32 (lv_at hl 0 rfl) ?_
          refine lv_ifnonnull (tgt := 43) hx hb dX2_turnInto_34 (by decide) ?_
          refine lv_aload hx hb dX2_turnInto_43 (lv_at hl 0 rfl) ?_
          refine wd_get (ci := 1) (v := .int ((rs r_29).1)) (C := RX1) (T := TX1) (N := 2) hx hb hts (by decide +kernel) hown hK.1 hW (hC.2.2.2.2.2.2.2.1 r_29 hl_29).1 rfl 0 (by decide) (hts (.fieldLink RX2 94 "CharRows$Text" "kindOfItems" "I") (by decide +kernel)) (fun _ h9 => h9) rfl dX2_turnInto_45 ?_
          refine lv_iconst (v := 2) hx hb dX2_turnInto_48 (by decide) ?_
          refine lv_icmp_ne (tgt := 58) hx hb dX2_turnInto_49 (by decide) (fun c_49 => ?_) (fun c_49 => ?_)
          ·
            refine lv_iload_n hx hb dX2_turnInto_58 rfl (lv_at hl 4 rfl) ?_
            refine lv_iconst (v := 1) hx hb dX2_turnInto_59 (by decide) ?_
            refine lv_icmp_ne (tgt := 75) hx hb dX2_turnInto_60 (by decide) (fun c_60 => ?_) (fun c_60 => ?_)
            ·
              refine lv_aload hx hb dX2_turnInto_75 (lv_at hl 0 rfl) ?_
              refine lv_aload_n hx hb dX2_turnInto_77 rfl (lv_at hl 1 rfl) ?_
              refine wd_get (ci := 2) (v := .ref wk) (C := RX2) (T := TX2) (N := 8) hx hb hts (by decide +kernel) hown hK.1 hW hC.1 rfl 4 (by decide) (hts (.fieldLink RX2 31 "CharRows" "work" "LCharRows$Row;") (by decide +kernel)) (fun _ h9 => h9) rfl dX2_turnInto_78 ?_
              refine wd_callSv (As := [.ref (aT r_29), .ref wk]) (rest := []) (c2 := 0) (s2 := 0) ⟨hx, hb, hml, hown, hts⟩ (k_X2_listUnits l D cI cT w H.size (aT r_29) (aI r_29) ((rs r_29).1) ((rs r_29).2.length) (lf (rs r_29).2) wk wkI 240 Xw (⟨(hC.2.2.2.2.2.2.2.1 r_29 hl_29).1, (hC.2.2.2.2.2.2.2.1 r_29 hl_29).2.1, by omega⟩) hXw ((hC.2.2.2.2.2.2.2.1 r_29 hl_29).2.2.2.1)) (va_cwS 2 hts gX2_turnInto_X2_listUnits rfl rfl rfl (by decide +kernel) ⟨Nat.le_of_ble_eq_true rfl, Nat.le_of_ble_eq_true rfl⟩) gK_ok hK hW hS hA rfl hl.1 rfl (Nat.le_of_ble_eq_true rfl) dX2_turnInto_81 ⟨Nat.le_of_ble_eq_true rfl, Nat.le_of_ble_eq_true rfl⟩ rfl rfl (fun w_81 H locs hp_81 hW hz hS => ?_)
              subst w_81
              have hXs := hC.kWS (Y := r_lu 240 ((rs r_29).1) (lf (rs r_29).2) ((rs r_29).2.length) Xw) hXs
              have hXw : rowAt (rowSet w wk wkI cI 240 (r_lu 240 ((rs r_29).1) (lf (rs r_29).2) ((rs r_29).2.length) Xw)) wk wkI cI 240 (r_lu 240 ((rs r_29).1) (lf (rs r_29).2) ((rs r_29).2.length) Xw) := rowSet_at hXw.ne r_lu_le (by omega)
              have hC := hC.work (r_lu 240 ((rs r_29).1) (lf (rs r_29).2) ((rs r_29).2.length) Xw) hXw.2.2.1
              have hXc_81 := hXw.2.2.1
              have hl60 := hok_29.len2 c_49
              have hxs : u_ul (rs r_29).1 (rs r_29).2 = rl (r_lu 240 ((rs r_29).1) (lf (rs r_29).2) ((rs r_29).2.length) Xw) := (rl_lu (by omega) (fun _ => by omega)).symm
              have hcnt := congrArg List.length hxs
              rw [rl_len] at hcnt
              refine lv_aload_n hx hb dX2_turnInto_84 rfl (lv_at hl 1 rfl) ?_
              refine wd_get (ci := 2) (v := .ref wk) (C := RX2) (T := TX2) (N := 8) hx hb hts (by decide +kernel) hown hK.1 hW hC.1 rfl 4 (by decide) (hts (.fieldLink RX2 31 "CharRows" "work" "LCharRows$Row;") (by decide +kernel)) (fun _ h9 => h9) rfl dX2_turnInto_85 ?_
              refine wd_get (ci := 0) (v := .int (nI ((r_lu 240 ((rs r_29).1) (lf (rs r_29).2) ((rs r_29).2.length) Xw).2))) (C := RX0) (T := TX0) (N := 2) hx hb hts (by decide +kernel) hown hK.1 hW hXw.1 rfl 1 (by decide) (hts (.fieldLink RX2 48 "CharRows$Row" "count" "I") (by decide +kernel)) (fun _ h9 => h9) rfl dX2_turnInto_88 ?_
              refine lv_bipush (v := 60) hx hb dX2_turnInto_91 (by decide) ?_
              refine lv_icmp_le (tgt := 103) hx hb dX2_turnInto_93 (by decide) (fun c_93 => ?_) (fun c_93 => ?_)
              ·
                have c_93 : (r_lu 240 ((rs r_29).1) (lf (rs r_29).2) ((rs r_29).2.length) Xw).2 ≤ 60 := (nI_leI (by omega) (by omega)).mp (show (nI ((r_lu 240 ((rs r_29).1) (lf (rs r_29).2) ((rs r_29).2.length) Xw).2) ≤ nI 60) from c_93)
                refine lv_aload_n hx hb dX2_turnInto_103 rfl (lv_at hl 1 rfl) ?_
                refine lv_iload_n hx hb dX2_turnInto_104 rfl (lv_at hl 2 rfl) ?_
                refine lv_iload_n hx hb dX2_turnInto_105 rfl (lv_at hl 4 rfl) ?_
                refine lv_aload_n hx hb dX2_turnInto_106 rfl (lv_at hl 1 rfl) ?_
                refine wd_get (ci := 2) (v := .ref wk) (C := RX2) (T := TX2) (N := 8) hx hb hts (by decide +kernel) hown hK.1 hW hC.1 rfl 4 (by decide) (hts (.fieldLink RX2 31 "CharRows" "work" "LCharRows$Row;") (by decide +kernel)) (fun _ h9 => h9) rfl dX2_turnInto_107 ?_
                refine wd_callVi (As := [.int (nI tN), .int way, .ref wk]) (rest := []) (c2 := 2) (s2 := 242) ⟨hx, hb, hml, hown, hts⟩ (k_X2_setText l D cI cT (rowSet w wk wkI cI 240 (r_lu 240 ((rs r_29).1) (lf (rs r_29).2) ((rs r_29).2.length) Xw)) H.size o tA kA (nI kp.length) dr wk sw cd pl (fun t => (tx t).map aT) tN way wk wkI 240 (r_lu 240 ((rs r_29).1) (lf (rs r_29).2) ((rs r_29).2.length) Xw) hC.1 hC.2.1 (by omega) hXw) (cwV 3 hts gX2_turnInto_X2_setText rfl rfl rfl (by decide +kernel) ⟨Nat.le_of_ble_eq_true rfl, Nat.le_of_ble_eq_true rfl⟩) gK_ok hK hW (wd_recv (ci := 2) hK.1 hW rfl hC.1) hS hA rfl hl.1 rfl (Nat.le_of_ble_eq_true rfl) dX2_turnInto_110 ⟨Nat.le_of_ble_eq_true rfl, Nat.le_of_ble_eq_true rfl⟩ rfl rfl (fun r_110 w_110 H locs hp_110 hW hz hS => ?_)
                obtain ⟨q_r, q_e⟩ := hp_110
                subst r_110
                obtain ⟨w_s, aT', aI', hW, hC⟩ := c_setText hC (u_free_spec hwf.2.1 hwf.2.2.1).1 q_e hW
                refine wd_iret hx hb hr hlocks hW hS dX2_turnInto_113 ?_
                have e9 : s_turnInto (cd, pl, df, tx, kp, rs) (nI tN) (nI uN) way = (nI ((r_lu 240 ((rs r_29).1) (lf (rs r_29).2) ((rs r_29).2.length) Xw).2), 0, pl, df, (va_up tx tN (some (u_free tx kp))), kp, (va_up rs (u_free tx kp) (way, rl (r_lu 240 ((rs r_29).1) (lf (rs r_29).2) ((rs r_29).2.length) Xw)))) := by simp only [s_turnInto, if_neg (not_or.mpr ⟨c_4, (not_or.mpr ⟨c_11, c_18⟩)⟩), s_w1, s_no, s_mk, if_neg c_49, if_neg c_60, if_neg (show ¬ 60 < (u_ul (rs r_29).1 (rs r_29).2).length by omega), hcl_t, hcl_u, htx_29]; rw [hxs, rl_len]
                show _ = (s_turnInto (cd, pl, df, tx, kp, rs) (nI tN) (nI uN) way).1 ∧ InvC cI cT o (s_turnInto (cd, pl, df, tx, kp, rs) (nI tN) (nI uN) way).2 _
                rw [e9]
                exact ⟨rfl, tA, kA, dr, drI, wk, wkI, sw, swI, aT', aI', Xd, hC⟩
              ·
                have c_93 : ¬ ((r_lu 240 ((rs r_29).1) (lf (rs r_29).2) ((rs r_29).2.length) Xw).2 ≤ 60) := fun q9 => absurd ((nI_leI (by omega) (by omega)).mpr q9) (show ¬ (nI ((r_lu 240 ((rs r_29).1) (lf (rs r_29).2) ((rs r_29).2.length) Xw).2) ≤ nI 60) from c_93)
                refine lv_aload_n hx hb dX2_turnInto_96 rfl (lv_at hl 1 rfl) ?_
                refine lv_bipush (v := 6) hx hb dX2_turnInto_97 (by decide) ?_
                refine wd_callVi (As := [.int 6]) (rest := []) (c2 := 0) (s2 := 0) ⟨hx, hb, hml, hown, hts⟩ (k_X2_refuse l D cI cT (rowSet w wk wkI cI 240 (r_lu 240 ((rs r_29).1) (lf (rs r_29).2) ((rs r_29).2.length) Xw)) H.size o tA kA (nI kp.length) dr wk sw cd pl 6 hC.1) (cwV 1 hts gX2_turnInto_X2_refuse rfl rfl rfl (by decide +kernel) ⟨Nat.le_of_ble_eq_true rfl, Nat.le_of_ble_eq_true rfl⟩) gK_ok hK hW (wd_recv (ci := 2) hK.1 hW rfl hC.1) hS hA rfl hl.1 rfl (Nat.le_of_ble_eq_true rfl) dX2_turnInto_99 ⟨Nat.le_of_ble_eq_true rfl, Nat.le_of_ble_eq_true rfl⟩ rfl rfl (fun r_99 w_99 H locs hp_99 hW hz hS => ?_)
                obtain ⟨q_r, q_w⟩ := hp_99
                subst r_99
                subst w_99
                have hC := hC.obj 6 pl
                refine W.widen (k := 2) (n := 242) (by omega) (by omega) ?_
                refine wd_iret hx hb hr hlocks hW hS dX2_turnInto_102 ?_
                have e9 : s_turnInto (cd, pl, df, tx, kp, rs) (nI tN) (nI uN) way = (0, 6, pl, df, tx, kp, rs) := by simp only [s_turnInto, if_neg (not_or.mpr ⟨c_4, (not_or.mpr ⟨c_11, c_18⟩)⟩), s_w1, s_no, s_mk, if_neg c_49, if_neg c_60, if_pos (show 60 < (u_ul (rs r_29).1 (rs r_29).2).length by omega), hcl_t, hcl_u, htx_29]
                show _ = (s_turnInto (cd, pl, df, tx, kp, rs) (nI tN) (nI uN) way).1 ∧ InvC cI cT o (s_turnInto (cd, pl, df, tx, kp, rs) (nI tN) (nI uN) way).2 _
                rw [e9]
                exact ⟨rfl, tA, kA, dr, drI, wk, wkI, sw, swI, aT, aI, Xd, hC⟩
            ·
              refine lv_aload hx hb dX2_turnInto_63 (lv_at hl 0 rfl) ?_
              refine lv_aload_n hx hb dX2_turnInto_65 rfl (lv_at hl 1 rfl) ?_
              refine wd_get (ci := 2) (v := .ref wk) (C := RX2) (T := TX2) (N := 8) hx hb hts (by decide +kernel) hown hK.1 hW hC.1 rfl 4 (by decide) (hts (.fieldLink RX2 31 "CharRows" "work" "LCharRows$Row;") (by decide +kernel)) (fun _ h9 => h9) rfl dX2_turnInto_66 ?_
              refine wd_callSv (As := [.ref (aT r_29), .ref wk]) (rest := []) (c2 := 0) (s2 := 0) ⟨hx, hb, hml, hown, hts⟩ (k_X2_listPoints l D cI cT w H.size (aT r_29) (aI r_29) ((rs r_29).1) ((rs r_29).2.length) (lf (rs r_29).2) wk wkI 240 Xw (⟨(hC.2.2.2.2.2.2.2.1 r_29 hl_29).1, (hC.2.2.2.2.2.2.2.1 r_29 hl_29).2.1, by omega⟩) hXw ((hC.2.2.2.2.2.2.2.1 r_29 hl_29).2.2.2.1)) (va_cwS 2 hts gX2_turnInto_X2_listPoints rfl rfl rfl (by decide +kernel) ⟨Nat.le_of_ble_eq_true rfl, Nat.le_of_ble_eq_true rfl⟩) gK_ok hK hW hS hA rfl hl.1 rfl (Nat.le_of_ble_eq_true rfl) dX2_turnInto_69 ⟨Nat.le_of_ble_eq_true rfl, Nat.le_of_ble_eq_true rfl⟩ rfl rfl (fun w_69 H locs hp_69 hW hz hS => ?_)
              subst w_69
              have hXs := hC.kWS (Y := r_lp 240 ((rs r_29).1) (lf (rs r_29).2) ((rs r_29).2.length) Xw) hXs
              have hXw : rowAt (rowSet w wk wkI cI 240 (r_lp 240 ((rs r_29).1) (lf (rs r_29).2) ((rs r_29).2.length) Xw)) wk wkI cI 240 (r_lp 240 ((rs r_29).1) (lf (rs r_29).2) ((rs r_29).2.length) Xw) := rowSet_at hXw.ne r_lp_le (by omega)
              have hC := hC.work (r_lp 240 ((rs r_29).1) (lf (rs r_29).2) ((rs r_29).2.length) Xw) hXw.2.2.1
              have hXc_69 := hXw.2.2.1
              refine lv_goto (tgt := 84) hx hb dX2_turnInto_72 (by decide) ?_
              have hxs : u_pl (rs r_29).1 (rs r_29).2 = rl (r_lp 240 ((rs r_29).1) (lf (rs r_29).2) ((rs r_29).2.length) Xw) := (rl_lp (by omega) (by omega)).symm
              have hcnt := congrArg List.length hxs
              rw [rl_len] at hcnt
              refine lv_aload_n hx hb dX2_turnInto_84 rfl (lv_at hl 1 rfl) ?_
              refine wd_get (ci := 2) (v := .ref wk) (C := RX2) (T := TX2) (N := 8) hx hb hts (by decide +kernel) hown hK.1 hW hC.1 rfl 4 (by decide) (hts (.fieldLink RX2 31 "CharRows" "work" "LCharRows$Row;") (by decide +kernel)) (fun _ h9 => h9) rfl dX2_turnInto_85 ?_
              refine wd_get (ci := 0) (v := .int (nI ((r_lp 240 ((rs r_29).1) (lf (rs r_29).2) ((rs r_29).2.length) Xw).2))) (C := RX0) (T := TX0) (N := 2) hx hb hts (by decide +kernel) hown hK.1 hW hXw.1 rfl 1 (by decide) (hts (.fieldLink RX2 48 "CharRows$Row" "count" "I") (by decide +kernel)) (fun _ h9 => h9) rfl dX2_turnInto_88 ?_
              refine lv_bipush (v := 60) hx hb dX2_turnInto_91 (by decide) ?_
              refine lv_icmp_le (tgt := 103) hx hb dX2_turnInto_93 (by decide) (fun c_93 => ?_) (fun c_93 => ?_)
              ·
                have c_93 : (r_lp 240 ((rs r_29).1) (lf (rs r_29).2) ((rs r_29).2.length) Xw).2 ≤ 60 := (nI_leI (by omega) (by omega)).mp (show (nI ((r_lp 240 ((rs r_29).1) (lf (rs r_29).2) ((rs r_29).2.length) Xw).2) ≤ nI 60) from c_93)
                refine lv_aload_n hx hb dX2_turnInto_103 rfl (lv_at hl 1 rfl) ?_
                refine lv_iload_n hx hb dX2_turnInto_104 rfl (lv_at hl 2 rfl) ?_
                refine lv_iload_n hx hb dX2_turnInto_105 rfl (lv_at hl 4 rfl) ?_
                refine lv_aload_n hx hb dX2_turnInto_106 rfl (lv_at hl 1 rfl) ?_
                refine wd_get (ci := 2) (v := .ref wk) (C := RX2) (T := TX2) (N := 8) hx hb hts (by decide +kernel) hown hK.1 hW hC.1 rfl 4 (by decide) (hts (.fieldLink RX2 31 "CharRows" "work" "LCharRows$Row;") (by decide +kernel)) (fun _ h9 => h9) rfl dX2_turnInto_107 ?_
                refine wd_callVi (As := [.int (nI tN), .int way, .ref wk]) (rest := []) (c2 := 2) (s2 := 242) ⟨hx, hb, hml, hown, hts⟩ (k_X2_setText l D cI cT (rowSet w wk wkI cI 240 (r_lp 240 ((rs r_29).1) (lf (rs r_29).2) ((rs r_29).2.length) Xw)) H.size o tA kA (nI kp.length) dr wk sw cd pl (fun t => (tx t).map aT) tN way wk wkI 240 (r_lp 240 ((rs r_29).1) (lf (rs r_29).2) ((rs r_29).2.length) Xw) hC.1 hC.2.1 (by omega) hXw) (cwV 3 hts gX2_turnInto_X2_setText rfl rfl rfl (by decide +kernel) ⟨Nat.le_of_ble_eq_true rfl, Nat.le_of_ble_eq_true rfl⟩) gK_ok hK hW (wd_recv (ci := 2) hK.1 hW rfl hC.1) hS hA rfl hl.1 rfl (Nat.le_of_ble_eq_true rfl) dX2_turnInto_110 ⟨Nat.le_of_ble_eq_true rfl, Nat.le_of_ble_eq_true rfl⟩ rfl rfl (fun r_110 w_110 H locs hp_110 hW hz hS => ?_)
                obtain ⟨q_r, q_e⟩ := hp_110
                subst r_110
                obtain ⟨w_s, aT', aI', hW, hC⟩ := c_setText hC (u_free_spec hwf.2.1 hwf.2.2.1).1 q_e hW
                refine wd_iret hx hb hr hlocks hW hS dX2_turnInto_113 ?_
                have e9 : s_turnInto (cd, pl, df, tx, kp, rs) (nI tN) (nI uN) way = (nI ((r_lp 240 ((rs r_29).1) (lf (rs r_29).2) ((rs r_29).2.length) Xw).2), 0, pl, df, (va_up tx tN (some (u_free tx kp))), kp, (va_up rs (u_free tx kp) (way, rl (r_lp 240 ((rs r_29).1) (lf (rs r_29).2) ((rs r_29).2.length) Xw)))) := by simp only [s_turnInto, if_neg (not_or.mpr ⟨c_4, (not_or.mpr ⟨c_11, c_18⟩)⟩), s_w1, s_no, s_mk, if_neg c_49, if_pos c_60, if_neg (show ¬ 60 < (u_pl (rs r_29).1 (rs r_29).2).length by omega), hcl_t, hcl_u, htx_29]; rw [hxs, rl_len]
                show _ = (s_turnInto (cd, pl, df, tx, kp, rs) (nI tN) (nI uN) way).1 ∧ InvC cI cT o (s_turnInto (cd, pl, df, tx, kp, rs) (nI tN) (nI uN) way).2 _
                rw [e9]
                exact ⟨rfl, tA, kA, dr, drI, wk, wkI, sw, swI, aT', aI', Xd, hC⟩
              ·
                have c_93 : ¬ ((r_lp 240 ((rs r_29).1) (lf (rs r_29).2) ((rs r_29).2.length) Xw).2 ≤ 60) := fun q9 => absurd ((nI_leI (by omega) (by omega)).mpr q9) (show ¬ (nI ((r_lp 240 ((rs r_29).1) (lf (rs r_29).2) ((rs r_29).2.length) Xw).2) ≤ nI 60) from c_93)
                refine lv_aload_n hx hb dX2_turnInto_96 rfl (lv_at hl 1 rfl) ?_
                refine lv_bipush (v := 6) hx hb dX2_turnInto_97 (by decide) ?_
                refine wd_callVi (As := [.int 6]) (rest := []) (c2 := 0) (s2 := 0) ⟨hx, hb, hml, hown, hts⟩ (k_X2_refuse l D cI cT (rowSet w wk wkI cI 240 (r_lp 240 ((rs r_29).1) (lf (rs r_29).2) ((rs r_29).2.length) Xw)) H.size o tA kA (nI kp.length) dr wk sw cd pl 6 hC.1) (cwV 1 hts gX2_turnInto_X2_refuse rfl rfl rfl (by decide +kernel) ⟨Nat.le_of_ble_eq_true rfl, Nat.le_of_ble_eq_true rfl⟩) gK_ok hK hW (wd_recv (ci := 2) hK.1 hW rfl hC.1) hS hA rfl hl.1 rfl (Nat.le_of_ble_eq_true rfl) dX2_turnInto_99 ⟨Nat.le_of_ble_eq_true rfl, Nat.le_of_ble_eq_true rfl⟩ rfl rfl (fun r_99 w_99 H locs hp_99 hW hz hS => ?_)
                obtain ⟨q_r, q_w⟩ := hp_99
                subst r_99
                subst w_99
                have hC := hC.obj 6 pl
                refine W.widen (k := 2) (n := 242) (by omega) (by omega) ?_
                refine wd_iret hx hb hr hlocks hW hS dX2_turnInto_102 ?_
                have e9 : s_turnInto (cd, pl, df, tx, kp, rs) (nI tN) (nI uN) way = (0, 6, pl, df, tx, kp, rs) := by simp only [s_turnInto, if_neg (not_or.mpr ⟨c_4, (not_or.mpr ⟨c_11, c_18⟩)⟩), s_w1, s_no, s_mk, if_neg c_49, if_pos c_60, if_pos (show 60 < (u_pl (rs r_29).1 (rs r_29).2).length by omega), hcl_t, hcl_u, htx_29]
                show _ = (s_turnInto (cd, pl, df, tx, kp, rs) (nI tN) (nI uN) way).1 ∧ InvC cI cT o (s_turnInto (cd, pl, df, tx, kp, rs) (nI tN) (nI uN) way).2 _
                rw [e9]
                exact ⟨rfl, tA, kA, dr, drI, wk, wkI, sw, swI, aT, aI, Xd, hC⟩
          ·
            refine lv_aload_n hx hb dX2_turnInto_52 rfl (lv_at hl 1 rfl) ?_
            refine lv_iconst (v := 2) hx hb dX2_turnInto_53 (by decide) ?_
            refine wd_callVi (As := [.int 2]) (rest := []) (c2 := 0) (s2 := 0) ⟨hx, hb, hml, hown, hts⟩ (k_X2_refuse l D cI cT w H.size o tA kA (nI kp.length) dr wk sw cd pl 2 hC.1) (cwV 1 hts gX2_turnInto_X2_refuse rfl rfl rfl (by decide +kernel) ⟨Nat.le_of_ble_eq_true rfl, Nat.le_of_ble_eq_true rfl⟩) gK_ok hK hW (wd_recv (ci := 2) hK.1 hW rfl hC.1) hS hA rfl hl.1 rfl (Nat.le_of_ble_eq_true rfl) dX2_turnInto_54 ⟨Nat.le_of_ble_eq_true rfl, Nat.le_of_ble_eq_true rfl⟩ rfl rfl (fun r_54 w_54 H locs hp_54 hW hz hS => ?_)
            obtain ⟨q_r, q_w⟩ := hp_54
            subst r_54
            subst w_54
            have hC := hC.obj 2 pl
            refine W.widen (k := 2) (n := 242) (by omega) (by omega) ?_
            refine wd_iret hx hb hr hlocks hW hS dX2_turnInto_57 ?_
            have e9 : s_turnInto (cd, pl, df, tx, kp, rs) (nI tN) (nI uN) way = (0, 2, pl, df, tx, kp, rs) := by simp only [s_turnInto, if_neg (not_or.mpr ⟨c_4, (not_or.mpr ⟨c_11, c_18⟩)⟩), s_w1, s_no, s_mk, if_pos c_49, hcl_t, hcl_u, htx_29]
            show _ = (s_turnInto (cd, pl, df, tx, kp, rs) (nI tN) (nI uN) way).1 ∧ InvC cI cT o (s_turnInto (cd, pl, df, tx, kp, rs) (nI tN) (nI uN) way).2 _
            rw [e9]
            exact ⟨rfl, tA, kA, dr, drI, wk, wkI, sw, swI, aT, aI, Xd, hC⟩
      ·
        have c_18 := j_bn c_18
        refine lv_ldc (v := (-2000000001)) hx hb hown (hts (.constant RX2 47 (-2000000001)) (by decide +kernel)) dX2_turnInto_21 ?_
        refine W.widen (k := 2) (n := 242) (by omega) (by omega) ?_
        refine wd_iret hx hb hr hlocks hW hS dX2_turnInto_23 ?_
        have e9 : s_turnInto (cd, pl, df, tx, kp, rs) (nI tN) (nI uN) way = ((-2000000001), cd, pl, df, tx, kp, rs) := by simp only [s_turnInto, if_pos (Or.inr (Or.inr c_18)), s_w1, s_no, s_mk, hcl_t, hcl_u]
        show _ = (s_turnInto (cd, pl, df, tx, kp, rs) (nI tN) (nI uN) way).1 ∧ InvC cI cT o (s_turnInto (cd, pl, df, tx, kp, rs) (nI tN) (nI uN) way).2 _
        rw [e9]
        exact ⟨rfl, tA, kA, dr, drI, wk, wkI, sw, swI, aT, aI, Xd, hC⟩
set_option maxHeartbeats 4000000 in
set_option maxRecDepth 100000 in
theorem k_X2_tell (l : Launch) (D : va_G) (cI cT : ClassId) (w : Wd) (sz : Nat) (o : Nat) (cd : Int32) (pl : Int32) (df : List Int32) (tx : Nat → Option Nat) (kp : List Nat) (rs : Rws) (t : Int32) (u : Int32) (form : Int32) (hwf : WF (cd, pl, df, tx, kp, rs)) (hI : InvC cI cT o (cd, pl, df, tx, kp, rs) w) : wd_Mi l D vwCl (gK D cI cT) yX2_tell wsX2_tell (wd_rm 4 2 242) [.ref o, .int t, .int u, .int form] w sz (fun r w' => r = (s_tell (cd, pl, df, tx, kp, rs) t u form).1 ∧ InvC cI cT o (s_tell (cd, pl, df, tx, kp, rs) t u form).2 w') := by
  refine wd_met (cc := cX2_tell) (maxL := 6) (ret := (some .int)) (by decide) rfl (Nat.le_of_ble_eq_true rfl) ?_
  intro pg ev sg mi bl mt cde ls C0 hsz hK hW hl
  obtain ⟨hx, hb, hr, hml, hown, hts, hlocks, hnm⟩ := C0
  subst hsz
  have hown : sg.vm.findClass RX2 = some mi.cls := hown
  have hS : va_S (wd_A w sg.heap.size) sg.heap sg.heap [] := va_S.rf
  have hA : ∀ q, sg.heap.size ≤ q → wd_A w sg.heap.size q := fun q h => Or.inr h
  have hl : lv_has ls 6 [(0, .ref o), (1, .int t), (2, .int u), (3, .int form)] := hl
  obtain ⟨tA, kA, dr, drI, wk, wkI, sw, swI, aT, aI, Xd, hC⟩ := hI
  dsimp only at hC
  obtain ⟨Xw, hXw⟩ := hC.2.2.2.2.1
  obtain ⟨Xs, hXs⟩ := hC.2.2.2.2.2.1
  have hXd1 := hC.2.2.2.1.1.2.2.1
  have hdf := hC.2.2.2.1.2
  have hkp : kp.length ≤ 12 := hwf.2.2.1
  have hdl : df.length = Xd.2 := by rw [← hC.2.2.2.1.2, rl_len]
  have hdg : ∀ j, j < df.length → Xd.1 j = lf df j := fun j hj => by rw [← hdf, lf, rl_getD (by omega)]
  refine lv_iload_n hx hb dX2_tell_0 rfl (lv_at hl 1 rfl) ?_
  refine wd_callSi (As := [.int t]) (rest := []) (c2 := 0) (s2 := 0) ⟨hx, hb, hml, hown, hts⟩ (k_X2_isNoText l D cI cT w sg.heap.size t ) (va_cwS 1 hts gX2_tell_X2_isNoText rfl rfl rfl (by decide +kernel) ⟨Nat.le_of_ble_eq_true rfl, Nat.le_of_ble_eq_true rfl⟩) gK_ok hK hW hS hA rfl hl.1 rfl (Nat.le_of_ble_eq_true rfl) dX2_tell_1 ⟨Nat.le_of_ble_eq_true rfl, Nat.le_of_ble_eq_true rfl⟩ rfl rfl (fun r_1 w_1 H locs hp_1 hW hz hS => ?_)
  obtain ⟨q_r, q_w⟩ := hp_1
  subst r_1
  subst w_1
  refine lv_if_ne (tgt := 21) hx hb dX2_tell_4 (by decide) (fun c_4 => ?_) (fun c_4 => ?_)
  ·
    have c_4 := j_bn c_4
    refine lv_ldc (v := (-2000000001)) hx hb hown (hts (.constant RX2 47 (-2000000001)) (by decide +kernel)) dX2_tell_21 ?_
    refine W.widen (k := 2) (n := 242) (by omega) (by omega) ?_
    refine wd_iret hx hb hr hlocks hW hS dX2_tell_23 ?_
    have e9 : s_tell (cd, pl, df, tx, kp, rs) t u form = ((-2000000001), cd, pl, df, tx, kp, rs) := by simp only [s_tell, if_pos (Or.inl c_4), s_w1, s_no, s_mk, s_brk]
    show _ = (s_tell (cd, pl, df, tx, kp, rs) t u form).1 ∧ InvC cI cT o (s_tell (cd, pl, df, tx, kp, rs) t u form).2 _
    rw [e9]
    exact ⟨rfl, tA, kA, dr, drI, wk, wkI, sw, swI, aT, aI, Xd, hC⟩
  ·
    have c_4 := j_b0 c_4
    obtain ⟨tN, htN, htE⟩ := nt_spec c_4
    subst htE
    have hcl_t : (nI tN).toNatClampNeg = tN := nI_clamp (by omega)
    refine lv_iload_n hx hb dX2_tell_7 rfl (lv_at hl 2 rfl) ?_
    refine wd_callSi (As := [.int u]) (rest := []) (c2 := 0) (s2 := 0) ⟨hx, hb, hml, hown, hts⟩ (k_X2_isNoText l D cI cT w H.size u ) (va_cwS 1 hts gX2_tell_X2_isNoText rfl rfl rfl (by decide +kernel) ⟨Nat.le_of_ble_eq_true rfl, Nat.le_of_ble_eq_true rfl⟩) gK_ok hK hW hS hA rfl hl.1 rfl (Nat.le_of_ble_eq_true rfl) dX2_tell_8 ⟨Nat.le_of_ble_eq_true rfl, Nat.le_of_ble_eq_true rfl⟩ rfl rfl (fun r_8 w_8 H locs hp_8 hW hz hS => ?_)
    obtain ⟨q_r, q_w⟩ := hp_8
    subst r_8
    subst w_8
    refine lv_if_ne (tgt := 21) hx hb dX2_tell_11 (by decide) (fun c_11 => ?_) (fun c_11 => ?_)
    ·
      have c_11 := j_bn c_11
      refine lv_ldc (v := (-2000000001)) hx hb hown (hts (.constant RX2 47 (-2000000001)) (by decide +kernel)) dX2_tell_21 ?_
      refine W.widen (k := 2) (n := 242) (by omega) (by omega) ?_
      refine wd_iret hx hb hr hlocks hW hS dX2_tell_23 ?_
      have e9 : s_tell (cd, pl, df, tx, kp, rs) (nI tN) u form = ((-2000000001), cd, pl, df, tx, kp, rs) := by simp only [s_tell, if_pos (Or.inr (Or.inl c_11)), s_w1, s_no, s_mk, s_brk, hcl_t]
      show _ = (s_tell (cd, pl, df, tx, kp, rs) (nI tN) u form).1 ∧ InvC cI cT o (s_tell (cd, pl, df, tx, kp, rs) (nI tN) u form).2 _
      rw [e9]
      exact ⟨rfl, tA, kA, dr, drI, wk, wkI, sw, swI, aT, aI, Xd, hC⟩
    ·
      have c_11 := j_b0 c_11
      obtain ⟨uN, huN, huE⟩ := nt_spec c_11
      subst huE
      have hcl_u : (nI uN).toNatClampNeg = uN := nI_clamp (by omega)
      refine lv_iload_n hx hb dX2_tell_14 rfl (lv_at hl 3 rfl) ?_
      refine wd_callSi (As := [.int form]) (rest := []) (c2 := 0) (s2 := 0) ⟨hx, hb, hml, hown, hts⟩ (k_X2_isNoForm l D cI cT w H.size form ) (va_cwS 1 hts gX2_tell_X2_isNoForm rfl rfl rfl (by decide +kernel) ⟨Nat.le_of_ble_eq_true rfl, Nat.le_of_ble_eq_true rfl⟩) gK_ok hK hW hS hA rfl hl.1 rfl (Nat.le_of_ble_eq_true rfl) dX2_tell_15 ⟨Nat.le_of_ble_eq_true rfl, Nat.le_of_ble_eq_true rfl⟩ rfl rfl (fun r_15 w_15 H locs hp_15 hW hz hS => ?_)
      obtain ⟨q_r, q_w⟩ := hp_15
      subst r_15
      subst w_15
      refine lv_if_eq (tgt := 24) hx hb dX2_tell_18 (by decide) (fun c_18 => ?_) (fun c_18 => ?_)
      ·
        have c_18 := j_b0 c_18
        refine lv_aload_n hx hb dX2_tell_24 rfl (lv_at hl 0 rfl) ?_
        refine wd_get (ci := 2) (v := .ref tA) (C := RX2) (T := TX2) (N := 8) hx hb hts (by decide +kernel) hown hK.1 hW hC.1 rfl 0 (by decide) (hts (.fieldLink RX2 11 "CharRows" "texts" "[LCharRows$Text;") (by decide +kernel)) (fun _ h9 => h9) rfl dX2_tell_25 ?_
        refine lv_iload_n hx hb dX2_tell_28 rfl (lv_at hl 2 rfl) ?_
        refine wd_aldq hx hb hK.1 hW 1 hC.2.1 rfl (vp_in_nI (by omega) (by omega)) dX2_tell_29 ?_
        rw [nI_clamp (by omega)]
        cases htx_29 : tx uN with
        | none =>
          refine wd_topR (y := .null) (by simp [htx_29, va_rf]) ?_
          refine lv_astoreN (lv' := [(4, .null), (0, .ref o), (1, .int (nI tN)), (2, .int (nI uN)), (3, .int form)]) hx hb dX2_tell_30 hl (by decide) rfl (fun ls hl => ?_)
          refine lv_aloadN hx hb dX2_tell_32 (lv_at hl 0 rfl) ?_
          refine lv_ifnonnullN hx hb dX2_tell_34 ?_
          refine lv_aload_n hx hb dX2_tell_37 rfl (lv_at hl 1 rfl) ?_
          refine lv_iconst (v := 1) hx hb dX2_tell_38 (by decide) ?_
          refine wd_callVi (As := [.int 1]) (rest := []) (c2 := 0) (s2 := 0) ⟨hx, hb, hml, hown, hts⟩ (k_X2_refuse l D cI cT w H.size o tA kA (nI kp.length) dr wk sw cd pl 1 hC.1) (cwV 1 hts gX2_tell_X2_refuse rfl rfl rfl (by decide +kernel) ⟨Nat.le_of_ble_eq_true rfl, Nat.le_of_ble_eq_true rfl⟩) gK_ok hK hW (wd_recv (ci := 2) hK.1 hW rfl hC.1) hS hA rfl hl.1 rfl (Nat.le_of_ble_eq_true rfl) dX2_tell_39 ⟨Nat.le_of_ble_eq_true rfl, Nat.le_of_ble_eq_true rfl⟩ rfl rfl (fun r_39 w_39 H locs hp_39 hW hz hS => ?_)
          obtain ⟨q_r, q_w⟩ := hp_39
          subst r_39
          subst w_39
          have hC := hC.obj 1 pl
          refine W.widen (k := 2) (n := 242) (by omega) (by omega) ?_
          refine wd_iret hx hb hr hlocks hW hS dX2_tell_42 ?_
          have e9 : s_tell (cd, pl, df, tx, kp, rs) (nI tN) (nI uN) form = (0, 1, pl, df, tx, kp, rs) := by simp only [s_tell, if_neg (not_or.mpr ⟨c_4, (not_or.mpr ⟨c_11, c_18⟩)⟩), s_w1, s_no, s_mk, s_brk, hcl_t, hcl_u, htx_29]
          show _ = (s_tell (cd, pl, df, tx, kp, rs) (nI tN) (nI uN) form).1 ∧ InvC cI cT o (s_tell (cd, pl, df, tx, kp, rs) (nI tN) (nI uN) form).2 _
          rw [e9]
          exact ⟨rfl, tA, kA, dr, drI, wk, wkI, sw, swI, aT, aI, Xd, hC⟩
        | some r_29 =>
          refine wd_topR (y := .ref (aT r_29)) (by simp [htx_29, va_rf]) ?_
          have hl_29 : live tx kp r_29 := Or.inl ⟨_, htx_29⟩
          have hok_29 : rOK (rs r_29) := (hwf.2.2.2.1 r_29 hl_29).2
          have hlen_29 := hok_29.len
          refine lv_astore (lv' := [(4, .ref (aT r_29)), (0, .ref o), (1, .int (nI tN)), (2, .int (nI uN)), (3, .int form)]) hx hb dX2_tell_30 hl (by decide) rfl (fun ls hl => ?_)
          refine lv_aload hx hb dX2_tell_32 (lv_at hl 0 rfl) ?_
          refine lv_ifnonnull (tgt := 43) hx hb dX2_tell_34 (by decide) ?_
          refine lv_aload hx hb dX2_tell_43 (lv_at hl 0 rfl) ?_
          refine wd_get (ci := 1) (v := .int ((rs r_29).1)) (C := RX1) (T := TX1) (N := 2) hx hb hts (by decide +kernel) hown hK.1 hW (hC.2.2.2.2.2.2.2.1 r_29 hl_29).1 rfl 0 (by decide) (hts (.fieldLink RX2 94 "CharRows$Text" "kindOfItems" "I") (by decide +kernel)) (fun _ h9 => h9) rfl dX2_tell_45 ?_
          refine lv_iconst (v := 2) hx hb dX2_tell_48 (by decide) ?_
          refine lv_icmp_ne (tgt := 58) hx hb dX2_tell_49 (by decide) (fun c_49 => ?_) (fun c_49 => ?_)
          ·
            have hl60 := hok_29.len2 c_49
            refine lv_aload_n hx hb dX2_tell_58 rfl (lv_at hl 1 rfl) ?_
            refine wd_get (ci := 2) (v := .ref sw) (C := RX2) (T := TX2) (N := 8) hx hb hts (by decide +kernel) hown hK.1 hW hC.1 rfl 5 (by decide) (hts (.fieldLink RX2 34 "CharRows" "secondWork" "LCharRows$Row;") (by decide +kernel)) (fun _ h9 => h9) rfl dX2_tell_59 ?_
            refine wd_callVv (As := []) (rest := []) (c2 := 0) (s2 := 0) ⟨hx, hb, hml, hown, hts⟩ (k_X0_empty l D cI cT w H.size sw swI 240 Xs hXs) (cwV 0 hts gX2_tell_X0_empty rfl rfl rfl (by decide +kernel) ⟨Nat.le_of_ble_eq_true rfl, Nat.le_of_ble_eq_true rfl⟩) gK_ok hK hW (wd_recv (ci := 0) hK.1 hW rfl hXs.1) hS hA rfl hl.1 rfl (Nat.le_of_ble_eq_true rfl) dX2_tell_62 ⟨Nat.le_of_ble_eq_true rfl, Nat.le_of_ble_eq_true rfl⟩ rfl rfl (fun w_62 H locs hp_62 hW hz hS => ?_)
            subst w_62
            have hXw := hC.kSW (Y := r_nil Xs) hXw
            have hXs : rowAt (rowSet w sw swI cI 240 (r_nil Xs)) sw swI cI 240 (r_nil Xs) := rowSet_at hXs.ne (Nat.zero_le _) (by omega)
            have hC := hC.second (r_nil Xs) hXs.2.2.1
            have hXc_62 := hXs.2.2.1
            refine lv_iload_n hx hb dX2_tell_65 rfl (lv_at hl 4 rfl) ?_
            refine lv_iconst (v := 1) hx hb dX2_tell_66 (by decide) ?_
            refine lv_icmp_eq (tgt := 75) hx hb dX2_tell_67 (by decide) (fun c_67 => ?_) (fun c_67 => ?_)
            ·
              refine lv_aload hx hb dX2_tell_75 (lv_at hl 0 rfl) ?_
              refine lv_aload_n hx hb dX2_tell_77 rfl (lv_at hl 1 rfl) ?_
              refine wd_get (ci := 2) (v := .ref wk) (C := RX2) (T := TX2) (N := 8) hx hb hts (by decide +kernel) hown hK.1 hW hC.1 rfl 4 (by decide) (hts (.fieldLink RX2 31 "CharRows" "work" "LCharRows$Row;") (by decide +kernel)) (fun _ h9 => h9) rfl dX2_tell_78 ?_
              refine wd_callSv (As := [.ref (aT r_29), .ref wk]) (rest := []) (c2 := 0) (s2 := 0) ⟨hx, hb, hml, hown, hts⟩ (k_X2_listUnits l D cI cT (rowSet w sw swI cI 240 (r_nil Xs)) H.size (aT r_29) (aI r_29) ((rs r_29).1) ((rs r_29).2.length) (lf (rs r_29).2) wk wkI 240 Xw (⟨(hC.2.2.2.2.2.2.2.1 r_29 hl_29).1, (hC.2.2.2.2.2.2.2.1 r_29 hl_29).2.1, by omega⟩) hXw ((hC.2.2.2.2.2.2.2.1 r_29 hl_29).2.2.2.1)) (va_cwS 2 hts gX2_tell_X2_listUnits rfl rfl rfl (by decide +kernel) ⟨Nat.le_of_ble_eq_true rfl, Nat.le_of_ble_eq_true rfl⟩) gK_ok hK hW hS hA rfl hl.1 rfl (Nat.le_of_ble_eq_true rfl) dX2_tell_81 ⟨Nat.le_of_ble_eq_true rfl, Nat.le_of_ble_eq_true rfl⟩ rfl rfl (fun w_81 H locs hp_81 hW hz hS => ?_)
              subst w_81
              have hXs := hC.kWS (Y := r_lu 240 ((rs r_29).1) (lf (rs r_29).2) ((rs r_29).2.length) Xw) hXs
              have hXw : rowAt (rowSet (rowSet w sw swI cI 240 (r_nil Xs)) wk wkI cI 240 (r_lu 240 ((rs r_29).1) (lf (rs r_29).2) ((rs r_29).2.length) Xw)) wk wkI cI 240 (r_lu 240 ((rs r_29).1) (lf (rs r_29).2) ((rs r_29).2.length) Xw) := rowSet_at hXw.ne r_lu_le (by omega)
              have hC := hC.work (r_lu 240 ((rs r_29).1) (lf (rs r_29).2) ((rs r_29).2.length) Xw) hXw.2.2.1
              have hXc_81 := hXw.2.2.1
              have hxs : u_ul (rs r_29).1 (rs r_29).2 = rl (r_lu 240 ((rs r_29).1) (lf (rs r_29).2) ((rs r_29).2.length) Xw) := (rl_lu (by omega) (fun _ => by omega)).symm
              have hcnt := congrArg List.length hxs
              rw [rl_len] at hcnt
              have hle := u_ul_len (rs r_29).1 (rs r_29).2
              refine lv_aload_n hx hb dX2_tell_84 rfl (lv_at hl 1 rfl) ?_
              refine wd_get (ci := 2) (v := .ref wk) (C := RX2) (T := TX2) (N := 8) hx hb hts (by decide +kernel) hown hK.1 hW hC.1 rfl 4 (by decide) (hts (.fieldLink RX2 31 "CharRows" "work" "LCharRows$Row;") (by decide +kernel)) (fun _ h9 => h9) rfl dX2_tell_85 ?_
              refine lv_iload_n hx hb dX2_tell_88 rfl (lv_at hl 4 rfl) ?_
              refine lv_aload_n hx hb dX2_tell_89 rfl (lv_at hl 1 rfl) ?_
              refine wd_get (ci := 2) (v := .ref sw) (C := RX2) (T := TX2) (N := 8) hx hb hts (by decide +kernel) hown hK.1 hW hC.1 rfl 5 (by decide) (hts (.fieldLink RX2 34 "CharRows" "secondWork" "LCharRows$Row;") (by decide +kernel)) (fun _ h9 => h9) rfl dX2_tell_90 ?_
              refine wd_callSv (As := [.ref wk, .int form, .ref sw]) (rest := []) (c2 := 0) (s2 := 0) ⟨hx, hb, hml, hown, hts⟩ (k_X2_tellUnits l D cI cT (rowSet (rowSet w sw swI cI 240 (r_nil Xs)) wk wkI cI 240 (r_lu 240 ((rs r_29).1) (lf (rs r_29).2) ((rs r_29).2.length) Xw)) H.size wk wkI 240 (r_lu 240 ((rs r_29).1) (lf (rs r_29).2) ((rs r_29).2.length) Xw) form sw swI 240 (r_nil Xs) hXw hXs hC.2.2.2.2.2.2.1.2.2.2.1 hC.2.2.2.2.2.2.1.2.2.2.2.2.2) (va_cwS 3 hts gX2_tell_X2_tellUnits rfl rfl rfl (by decide +kernel) ⟨Nat.le_of_ble_eq_true rfl, Nat.le_of_ble_eq_true rfl⟩) gK_ok hK hW hS hA rfl hl.1 rfl (Nat.le_of_ble_eq_true rfl) dX2_tell_93 ⟨Nat.le_of_ble_eq_true rfl, Nat.le_of_ble_eq_true rfl⟩ rfl rfl (fun w_93 H locs hp_93 hW hz hS => ?_)
              subst w_93
              have hXw := hC.kSW (Y := r_tu 240 240 form (r_lu 240 ((rs r_29).1) (lf (rs r_29).2) ((rs r_29).2.length) Xw) (r_nil Xs)) hXw
              have hXs : rowAt (rowSet (rowSet (rowSet w sw swI cI 240 (r_nil Xs)) wk wkI cI 240 (r_lu 240 ((rs r_29).1) (lf (rs r_29).2) ((rs r_29).2.length) Xw)) sw swI cI 240 (r_tu 240 240 form (r_lu 240 ((rs r_29).1) (lf (rs r_29).2) ((rs r_29).2.length) Xw) (r_nil Xs))) sw swI cI 240 (r_tu 240 240 form (r_lu 240 ((rs r_29).1) (lf (rs r_29).2) ((rs r_29).2.length) Xw) (r_nil Xs)) := rowSet_at hXs.ne (r_tu_le hXs.2.2.1) (by omega)
              have hC := hC.second (r_tu 240 240 form (r_lu 240 ((rs r_29).1) (lf (rs r_29).2) ((rs r_29).2.length) Xw) (r_nil Xs)) hXs.2.2.1
              have hXc_93 := hXs.2.2.1
              refine lv_aload_n hx hb dX2_tell_96 rfl (lv_at hl 1 rfl) ?_
              refine lv_iload_n hx hb dX2_tell_97 rfl (lv_at hl 2 rfl) ?_
              refine lv_iconst (v := 2) hx hb dX2_tell_98 (by decide) ?_
              refine lv_aload_n hx hb dX2_tell_99 rfl (lv_at hl 1 rfl) ?_
              refine wd_get (ci := 2) (v := .ref sw) (C := RX2) (T := TX2) (N := 8) hx hb hts (by decide +kernel) hown hK.1 hW hC.1 rfl 5 (by decide) (hts (.fieldLink RX2 34 "CharRows" "secondWork" "LCharRows$Row;") (by decide +kernel)) (fun _ h9 => h9) rfl dX2_tell_100 ?_
              refine wd_callVi (As := [.int (nI tN), .int 2, .ref sw]) (rest := []) (c2 := 2) (s2 := 242) ⟨hx, hb, hml, hown, hts⟩ (k_X2_setText l D cI cT (rowSet (rowSet (rowSet w sw swI cI 240 (r_nil Xs)) wk wkI cI 240 (r_lu 240 ((rs r_29).1) (lf (rs r_29).2) ((rs r_29).2.length) Xw)) sw swI cI 240 (r_tu 240 240 form (r_lu 240 ((rs r_29).1) (lf (rs r_29).2) ((rs r_29).2.length) Xw) (r_nil Xs))) H.size o tA kA (nI kp.length) dr wk sw cd pl (fun t => (tx t).map aT) tN 2 sw swI 240 (r_tu 240 240 form (r_lu 240 ((rs r_29).1) (lf (rs r_29).2) ((rs r_29).2.length) Xw) (r_nil Xs)) hC.1 hC.2.1 (by omega) hXs) (cwV 3 hts gX2_tell_X2_setText rfl rfl rfl (by decide +kernel) ⟨Nat.le_of_ble_eq_true rfl, Nat.le_of_ble_eq_true rfl⟩) gK_ok hK hW (wd_recv (ci := 2) hK.1 hW rfl hC.1) hS hA rfl hl.1 rfl (Nat.le_of_ble_eq_true rfl) dX2_tell_103 ⟨Nat.le_of_ble_eq_true rfl, Nat.le_of_ble_eq_true rfl⟩ rfl rfl (fun r_103 w_103 H locs hp_103 hW hz hS => ?_)
              obtain ⟨q_r, q_e⟩ := hp_103
              subst r_103
              obtain ⟨w_s, aT', aI', hW, hC⟩ := c_setText hC (u_free_spec hwf.2.1 hwf.2.2.1).1 q_e hW
              refine wd_iret hx hb hr hlocks hW hS dX2_tell_106 ?_
              have e9 : s_tell (cd, pl, df, tx, kp, rs) (nI tN) (nI uN) form = (nI ((r_tu 240 240 form (r_lu 240 ((rs r_29).1) (lf (rs r_29).2) ((rs r_29).2.length) Xw) (r_nil Xs)).2), 0, pl, df, (va_up tx tN (some (u_free tx kp))), kp, (va_up rs (u_free tx kp) (2, rl (r_tu 240 240 form (r_lu 240 ((rs r_29).1) (lf (rs r_29).2) ((rs r_29).2.length) Xw) (r_nil Xs))))) := by simp only [s_tell, if_neg (not_or.mpr ⟨c_4, (not_or.mpr ⟨c_11, c_18⟩)⟩), s_w1, s_no, s_mk, s_brk, if_neg c_49, if_pos (Or.inl c_67), hcl_t, hcl_u, htx_29]; rw [show (u_ul (rs r_29).1 (rs r_29).2).flatMap (u_tu form) = rl (r_tu 240 240 form (r_lu 240 ((rs r_29).1) (lf (rs r_29).2) ((rs r_29).2.length) Xw) (r_nil Xs)) from by rw [rl_tu (by omega) (by rw [r_nil]; omega), rl_nil, List.nil_append, ← hxs], rl_len]
              show _ = (s_tell (cd, pl, df, tx, kp, rs) (nI tN) (nI uN) form).1 ∧ InvC cI cT o (s_tell (cd, pl, df, tx, kp, rs) (nI tN) (nI uN) form).2 _
              rw [e9]
              exact ⟨rfl, tA, kA, dr, drI, wk, wkI, sw, swI, aT', aI', Xd, hC⟩
            ·
              refine lv_iload_n hx hb dX2_tell_70 rfl (lv_at hl 4 rfl) ?_
              refine lv_iconst (v := 2) hx hb dX2_tell_71 (by decide) ?_
              refine lv_icmp_ne (tgt := 107) hx hb dX2_tell_72 (by decide) (fun c_72 => ?_) (fun c_72 => ?_)
              ·
                refine lv_aload hx hb dX2_tell_107 (lv_at hl 0 rfl) ?_
                refine lv_aload_n hx hb dX2_tell_109 rfl (lv_at hl 1 rfl) ?_
                refine wd_get (ci := 2) (v := .ref wk) (C := RX2) (T := TX2) (N := 8) hx hb hts (by decide +kernel) hown hK.1 hW hC.1 rfl 4 (by decide) (hts (.fieldLink RX2 31 "CharRows" "work" "LCharRows$Row;") (by decide +kernel)) (fun _ h9 => h9) rfl dX2_tell_110 ?_
                refine wd_callSv (As := [.ref (aT r_29), .ref wk]) (rest := []) (c2 := 0) (s2 := 0) ⟨hx, hb, hml, hown, hts⟩ (k_X2_listPoints l D cI cT (rowSet w sw swI cI 240 (r_nil Xs)) H.size (aT r_29) (aI r_29) ((rs r_29).1) ((rs r_29).2.length) (lf (rs r_29).2) wk wkI 240 Xw (⟨(hC.2.2.2.2.2.2.2.1 r_29 hl_29).1, (hC.2.2.2.2.2.2.2.1 r_29 hl_29).2.1, by omega⟩) hXw ((hC.2.2.2.2.2.2.2.1 r_29 hl_29).2.2.2.1)) (va_cwS 2 hts gX2_tell_X2_listPoints rfl rfl rfl (by decide +kernel) ⟨Nat.le_of_ble_eq_true rfl, Nat.le_of_ble_eq_true rfl⟩) gK_ok hK hW hS hA rfl hl.1 rfl (Nat.le_of_ble_eq_true rfl) dX2_tell_113 ⟨Nat.le_of_ble_eq_true rfl, Nat.le_of_ble_eq_true rfl⟩ rfl rfl (fun w_113 H locs hp_113 hW hz hS => ?_)
                subst w_113
                have hXs := hC.kWS (Y := r_lp 240 ((rs r_29).1) (lf (rs r_29).2) ((rs r_29).2.length) Xw) hXs
                have hXw : rowAt (rowSet (rowSet w sw swI cI 240 (r_nil Xs)) wk wkI cI 240 (r_lp 240 ((rs r_29).1) (lf (rs r_29).2) ((rs r_29).2.length) Xw)) wk wkI cI 240 (r_lp 240 ((rs r_29).1) (lf (rs r_29).2) ((rs r_29).2.length) Xw) := rowSet_at hXw.ne r_lp_le (by omega)
                have hC := hC.work (r_lp 240 ((rs r_29).1) (lf (rs r_29).2) ((rs r_29).2.length) Xw) hXw.2.2.1
                have hXc_113 := hXw.2.2.1
                have hxs : u_pl (rs r_29).1 (rs r_29).2 = rl (r_lp 240 ((rs r_29).1) (lf (rs r_29).2) ((rs r_29).2.length) Xw) := (rl_lp (by omega) (by omega)).symm
                have hcnt := congrArg List.length hxs
                rw [rl_len] at hcnt
                have hle := u_pl_len (rs r_29).1 (rs r_29).2
                have hfu : u_find (j_bad form) (u_pl (rs r_29).1 (rs r_29).2) 0 = j_fu (r_lp 240 ((rs r_29).1) (lf (rs r_29).2) ((rs r_29).2.length) Xw) 240 form := by rw [j_fu_eq (by omega), hxs]
                refine lv_aload_n hx hb dX2_tell_116 rfl (lv_at hl 1 rfl) ?_
                refine wd_get (ci := 2) (v := .ref wk) (C := RX2) (T := TX2) (N := 8) hx hb hts (by decide +kernel) hown hK.1 hW hC.1 rfl 4 (by decide) (hts (.fieldLink RX2 31 "CharRows" "work" "LCharRows$Row;") (by decide +kernel)) (fun _ h9 => h9) rfl dX2_tell_117 ?_
                refine lv_iload_n hx hb dX2_tell_120 rfl (lv_at hl 4 rfl) ?_
                refine wd_callSi (As := [.ref wk, .int form]) (rest := []) (c2 := 0) (s2 := 0) ⟨hx, hb, hml, hown, hts⟩ (k_X2_firstUntellable l D cI cT (rowSet (rowSet w sw swI cI 240 (r_nil Xs)) wk wkI cI 240 (r_lp 240 ((rs r_29).1) (lf (rs r_29).2) ((rs r_29).2.length) Xw)) H.size wk wkI 240 (r_lp 240 ((rs r_29).1) (lf (rs r_29).2) ((rs r_29).2.length) Xw) form hXw) (va_cwS 2 hts gX2_tell_X2_firstUntellable rfl rfl rfl (by decide +kernel) ⟨Nat.le_of_ble_eq_true rfl, Nat.le_of_ble_eq_true rfl⟩) gK_ok hK hW hS hA rfl hl.1 rfl (Nat.le_of_ble_eq_true rfl) dX2_tell_121 ⟨Nat.le_of_ble_eq_true rfl, Nat.le_of_ble_eq_true rfl⟩ rfl rfl (fun r_121 w_121 H locs hp_121 hW hz hS => ?_)
                obtain ⟨q_r, q_w⟩ := hp_121
                subst r_121
                subst w_121
                refine lv_istore (lv' := [(5, .int (j_fu (r_lp 240 ((rs r_29).1) (lf (rs r_29).2) ((rs r_29).2.length) Xw) 240 form)), (4, .ref (aT r_29)), (0, .ref o), (1, .int (nI tN)), (2, .int (nI uN)), (3, .int form)]) hx hb dX2_tell_124 hl (by decide) rfl (fun ls hl => ?_)
                refine lv_iload hx hb dX2_tell_126 (lv_at hl 0 rfl) ?_
                refine lv_iconst (v := (-1)) hx hb dX2_tell_128 (by decide) ?_
                refine lv_icmp_eq (tgt := 139) hx hb dX2_tell_129 (by decide) (fun c_129 => ?_) (fun c_129 => ?_)
                ·
                  refine lv_aload_n hx hb dX2_tell_139 rfl (lv_at hl 2 rfl) ?_
                  refine wd_get (ci := 2) (v := .ref wk) (C := RX2) (T := TX2) (N := 8) hx hb hts (by decide +kernel) hown hK.1 hW hC.1 rfl 4 (by decide) (hts (.fieldLink RX2 31 "CharRows" "work" "LCharRows$Row;") (by decide +kernel)) (fun _ h9 => h9) rfl dX2_tell_140 ?_
                  refine lv_iload_n hx hb dX2_tell_143 rfl (lv_at hl 5 rfl) ?_
                  refine lv_aload_n hx hb dX2_tell_144 rfl (lv_at hl 2 rfl) ?_
                  refine wd_get (ci := 2) (v := .ref sw) (C := RX2) (T := TX2) (N := 8) hx hb hts (by decide +kernel) hown hK.1 hW hC.1 rfl 5 (by decide) (hts (.fieldLink RX2 34 "CharRows" "secondWork" "LCharRows$Row;") (by decide +kernel)) (fun _ h9 => h9) rfl dX2_tell_145 ?_
                  refine wd_callSv (As := [.ref wk, .int form, .ref sw]) (rest := []) (c2 := 0) (s2 := 0) ⟨hx, hb, hml, hown, hts⟩ (k_X2_tellPoints l D cI cT (rowSet (rowSet w sw swI cI 240 (r_nil Xs)) wk wkI cI 240 (r_lp 240 ((rs r_29).1) (lf (rs r_29).2) ((rs r_29).2.length) Xw)) H.size wk wkI 240 (r_lp 240 ((rs r_29).1) (lf (rs r_29).2) ((rs r_29).2.length) Xw) form sw swI 240 (r_nil Xs) hXw hXs hC.2.2.2.2.2.2.1.2.2.2.1 hC.2.2.2.2.2.2.1.2.2.2.2.2.2) (va_cwS 3 hts gX2_tell_X2_tellPoints rfl rfl rfl (by decide +kernel) ⟨Nat.le_of_ble_eq_true rfl, Nat.le_of_ble_eq_true rfl⟩) gK_ok hK hW hS hA rfl hl.1 rfl (Nat.le_of_ble_eq_true rfl) dX2_tell_148 ⟨Nat.le_of_ble_eq_true rfl, Nat.le_of_ble_eq_true rfl⟩ rfl rfl (fun w_148 H locs hp_148 hW hz hS => ?_)
                  subst w_148
                  have hXw := hC.kSW (Y := r_tp 240 240 form (r_lp 240 ((rs r_29).1) (lf (rs r_29).2) ((rs r_29).2.length) Xw) (r_nil Xs)) hXw
                  have hXs : rowAt (rowSet (rowSet (rowSet w sw swI cI 240 (r_nil Xs)) wk wkI cI 240 (r_lp 240 ((rs r_29).1) (lf (rs r_29).2) ((rs r_29).2.length) Xw)) sw swI cI 240 (r_tp 240 240 form (r_lp 240 ((rs r_29).1) (lf (rs r_29).2) ((rs r_29).2.length) Xw) (r_nil Xs))) sw swI cI 240 (r_tp 240 240 form (r_lp 240 ((rs r_29).1) (lf (rs r_29).2) ((rs r_29).2.length) Xw) (r_nil Xs)) := rowSet_at hXs.ne (r_tp_le hXs.2.2.1) (by omega)
                  have hC := hC.second (r_tp 240 240 form (r_lp 240 ((rs r_29).1) (lf (rs r_29).2) ((rs r_29).2.length) Xw) (r_nil Xs)) hXs.2.2.1
                  have hXc_148 := hXs.2.2.1
                  refine lv_aload_n hx hb dX2_tell_151 rfl (lv_at hl 2 rfl) ?_
                  refine lv_iload_n hx hb dX2_tell_152 rfl (lv_at hl 3 rfl) ?_
                  refine lv_iconst (v := 2) hx hb dX2_tell_153 (by decide) ?_
                  refine lv_aload_n hx hb dX2_tell_154 rfl (lv_at hl 2 rfl) ?_
                  refine wd_get (ci := 2) (v := .ref sw) (C := RX2) (T := TX2) (N := 8) hx hb hts (by decide +kernel) hown hK.1 hW hC.1 rfl 5 (by decide) (hts (.fieldLink RX2 34 "CharRows" "secondWork" "LCharRows$Row;") (by decide +kernel)) (fun _ h9 => h9) rfl dX2_tell_155 ?_
                  refine wd_callVi (As := [.int (nI tN), .int 2, .ref sw]) (rest := []) (c2 := 2) (s2 := 242) ⟨hx, hb, hml, hown, hts⟩ (k_X2_setText l D cI cT (rowSet (rowSet (rowSet w sw swI cI 240 (r_nil Xs)) wk wkI cI 240 (r_lp 240 ((rs r_29).1) (lf (rs r_29).2) ((rs r_29).2.length) Xw)) sw swI cI 240 (r_tp 240 240 form (r_lp 240 ((rs r_29).1) (lf (rs r_29).2) ((rs r_29).2.length) Xw) (r_nil Xs))) H.size o tA kA (nI kp.length) dr wk sw cd pl (fun t => (tx t).map aT) tN 2 sw swI 240 (r_tp 240 240 form (r_lp 240 ((rs r_29).1) (lf (rs r_29).2) ((rs r_29).2.length) Xw) (r_nil Xs)) hC.1 hC.2.1 (by omega) hXs) (cwV 3 hts gX2_tell_X2_setText rfl rfl rfl (by decide +kernel) ⟨Nat.le_of_ble_eq_true rfl, Nat.le_of_ble_eq_true rfl⟩) gK_ok hK hW (wd_recv (ci := 2) hK.1 hW rfl hC.1) hS hA rfl hl.1 rfl (Nat.le_of_ble_eq_true rfl) dX2_tell_158 ⟨Nat.le_of_ble_eq_true rfl, Nat.le_of_ble_eq_true rfl⟩ rfl rfl (fun r_158 w_158 H locs hp_158 hW hz hS => ?_)
                  obtain ⟨q_r, q_e⟩ := hp_158
                  subst r_158
                  obtain ⟨w_s, aT', aI', hW, hC⟩ := c_setText hC (u_free_spec hwf.2.1 hwf.2.2.1).1 q_e hW
                  refine wd_iret hx hb hr hlocks hW hS dX2_tell_161 ?_
                  have e9 : s_tell (cd, pl, df, tx, kp, rs) (nI tN) (nI uN) form = (nI ((r_tp 240 240 form (r_lp 240 ((rs r_29).1) (lf (rs r_29).2) ((rs r_29).2.length) Xw) (r_nil Xs)).2), 0, pl, df, (va_up tx tN (some (u_free tx kp))), kp, (va_up rs (u_free tx kp) (2, rl (r_tp 240 240 form (r_lp 240 ((rs r_29).1) (lf (rs r_29).2) ((rs r_29).2.length) Xw) (r_nil Xs))))) := by simp only [s_tell, if_neg (not_or.mpr ⟨c_4, (not_or.mpr ⟨c_11, c_18⟩)⟩), s_w1, s_no, s_mk, s_brk, if_neg c_49, if_neg (not_or.mpr ⟨c_67, c_72⟩), hfu, if_neg (not_not_intro c_129), hcl_t, hcl_u, htx_29]; rw [show (u_pl (rs r_29).1 (rs r_29).2).flatMap (u_tp form) = rl (r_tp 240 240 form (r_lp 240 ((rs r_29).1) (lf (rs r_29).2) ((rs r_29).2.length) Xw) (r_nil Xs)) from by rw [rl_tp (by omega) (by rw [r_nil]; omega), rl_nil, List.nil_append, ← hxs], rl_len]
                  show _ = (s_tell (cd, pl, df, tx, kp, rs) (nI tN) (nI uN) form).1 ∧ InvC cI cT o (s_tell (cd, pl, df, tx, kp, rs) (nI tN) (nI uN) form).2 _
                  rw [e9]
                  exact ⟨rfl, tA, kA, dr, drI, wk, wkI, sw, swI, aT', aI', Xd, hC⟩
                ·
                  refine lv_aload_n hx hb dX2_tell_132 rfl (lv_at hl 2 rfl) ?_
                  refine lv_iload hx hb dX2_tell_133 (lv_at hl 0 rfl) ?_
                  refine wd_callVi (As := [.int (j_fu (r_lp 240 ((rs r_29).1) (lf (rs r_29).2) ((rs r_29).2.length) Xw) 240 form)]) (rest := []) (c2 := 0) (s2 := 0) ⟨hx, hb, hml, hown, hts⟩ (k_X2_refuseAt l D cI cT (rowSet (rowSet w sw swI cI 240 (r_nil Xs)) wk wkI cI 240 (r_lp 240 ((rs r_29).1) (lf (rs r_29).2) ((rs r_29).2.length) Xw)) H.size o tA kA (nI kp.length) dr wk sw cd pl (j_fu (r_lp 240 ((rs r_29).1) (lf (rs r_29).2) ((rs r_29).2.length) Xw) 240 form) hC.1) (cwV 1 hts gX2_tell_X2_refuseAt rfl rfl rfl (by decide +kernel) ⟨Nat.le_of_ble_eq_true rfl, Nat.le_of_ble_eq_true rfl⟩) gK_ok hK hW (wd_recv (ci := 2) hK.1 hW rfl hC.1) hS hA rfl hl.1 rfl (Nat.le_of_ble_eq_true rfl) dX2_tell_135 ⟨Nat.le_of_ble_eq_true rfl, Nat.le_of_ble_eq_true rfl⟩ rfl rfl (fun r_135 w_135 H locs hp_135 hW hz hS => ?_)
                  obtain ⟨q_r, q_w⟩ := hp_135
                  subst r_135
                  subst w_135
                  have hC := hC.obj 5 (j_fu (r_lp 240 ((rs r_29).1) (lf (rs r_29).2) ((rs r_29).2.length) Xw) 240 form)
                  refine W.widen (k := 2) (n := 242) (by omega) (by omega) ?_
                  refine wd_iret hx hb hr hlocks hW hS dX2_tell_138 ?_
                  have e9 : s_tell (cd, pl, df, tx, kp, rs) (nI tN) (nI uN) form = (0, 5, j_fu (r_lp 240 ((rs r_29).1) (lf (rs r_29).2) ((rs r_29).2.length) Xw) 240 form, df, tx, kp, rs) := by simp only [s_tell, if_neg (not_or.mpr ⟨c_4, (not_or.mpr ⟨c_11, c_18⟩)⟩), s_w1, s_no, s_mk, s_brk, if_neg c_49, if_neg (not_or.mpr ⟨c_67, c_72⟩), hfu, if_pos c_129, hcl_t, hcl_u, htx_29]
                  show _ = (s_tell (cd, pl, df, tx, kp, rs) (nI tN) (nI uN) form).1 ∧ InvC cI cT o (s_tell (cd, pl, df, tx, kp, rs) (nI tN) (nI uN) form).2 _
                  rw [e9]
                  exact ⟨rfl, tA, kA, dr, drI, wk, wkI, sw, swI, aT, aI, Xd, hC⟩
              ·
                refine lv_aload hx hb dX2_tell_75 (lv_at hl 0 rfl) ?_
                refine lv_aload_n hx hb dX2_tell_77 rfl (lv_at hl 1 rfl) ?_
                refine wd_get (ci := 2) (v := .ref wk) (C := RX2) (T := TX2) (N := 8) hx hb hts (by decide +kernel) hown hK.1 hW hC.1 rfl 4 (by decide) (hts (.fieldLink RX2 31 "CharRows" "work" "LCharRows$Row;") (by decide +kernel)) (fun _ h9 => h9) rfl dX2_tell_78 ?_
                refine wd_callSv (As := [.ref (aT r_29), .ref wk]) (rest := []) (c2 := 0) (s2 := 0) ⟨hx, hb, hml, hown, hts⟩ (k_X2_listUnits l D cI cT (rowSet w sw swI cI 240 (r_nil Xs)) H.size (aT r_29) (aI r_29) ((rs r_29).1) ((rs r_29).2.length) (lf (rs r_29).2) wk wkI 240 Xw (⟨(hC.2.2.2.2.2.2.2.1 r_29 hl_29).1, (hC.2.2.2.2.2.2.2.1 r_29 hl_29).2.1, by omega⟩) hXw ((hC.2.2.2.2.2.2.2.1 r_29 hl_29).2.2.2.1)) (va_cwS 2 hts gX2_tell_X2_listUnits rfl rfl rfl (by decide +kernel) ⟨Nat.le_of_ble_eq_true rfl, Nat.le_of_ble_eq_true rfl⟩) gK_ok hK hW hS hA rfl hl.1 rfl (Nat.le_of_ble_eq_true rfl) dX2_tell_81 ⟨Nat.le_of_ble_eq_true rfl, Nat.le_of_ble_eq_true rfl⟩ rfl rfl (fun w_81 H locs hp_81 hW hz hS => ?_)
                subst w_81
                have hXs := hC.kWS (Y := r_lu 240 ((rs r_29).1) (lf (rs r_29).2) ((rs r_29).2.length) Xw) hXs
                have hXw : rowAt (rowSet (rowSet w sw swI cI 240 (r_nil Xs)) wk wkI cI 240 (r_lu 240 ((rs r_29).1) (lf (rs r_29).2) ((rs r_29).2.length) Xw)) wk wkI cI 240 (r_lu 240 ((rs r_29).1) (lf (rs r_29).2) ((rs r_29).2.length) Xw) := rowSet_at hXw.ne r_lu_le (by omega)
                have hC := hC.work (r_lu 240 ((rs r_29).1) (lf (rs r_29).2) ((rs r_29).2.length) Xw) hXw.2.2.1
                have hXc_81 := hXw.2.2.1
                have hxs : u_ul (rs r_29).1 (rs r_29).2 = rl (r_lu 240 ((rs r_29).1) (lf (rs r_29).2) ((rs r_29).2.length) Xw) := (rl_lu (by omega) (fun _ => by omega)).symm
                have hcnt := congrArg List.length hxs
                rw [rl_len] at hcnt
                have hle := u_ul_len (rs r_29).1 (rs r_29).2
                refine lv_aload_n hx hb dX2_tell_84 rfl (lv_at hl 1 rfl) ?_
                refine wd_get (ci := 2) (v := .ref wk) (C := RX2) (T := TX2) (N := 8) hx hb hts (by decide +kernel) hown hK.1 hW hC.1 rfl 4 (by decide) (hts (.fieldLink RX2 31 "CharRows" "work" "LCharRows$Row;") (by decide +kernel)) (fun _ h9 => h9) rfl dX2_tell_85 ?_
                refine lv_iload_n hx hb dX2_tell_88 rfl (lv_at hl 4 rfl) ?_
                refine lv_aload_n hx hb dX2_tell_89 rfl (lv_at hl 1 rfl) ?_
                refine wd_get (ci := 2) (v := .ref sw) (C := RX2) (T := TX2) (N := 8) hx hb hts (by decide +kernel) hown hK.1 hW hC.1 rfl 5 (by decide) (hts (.fieldLink RX2 34 "CharRows" "secondWork" "LCharRows$Row;") (by decide +kernel)) (fun _ h9 => h9) rfl dX2_tell_90 ?_
                refine wd_callSv (As := [.ref wk, .int form, .ref sw]) (rest := []) (c2 := 0) (s2 := 0) ⟨hx, hb, hml, hown, hts⟩ (k_X2_tellUnits l D cI cT (rowSet (rowSet w sw swI cI 240 (r_nil Xs)) wk wkI cI 240 (r_lu 240 ((rs r_29).1) (lf (rs r_29).2) ((rs r_29).2.length) Xw)) H.size wk wkI 240 (r_lu 240 ((rs r_29).1) (lf (rs r_29).2) ((rs r_29).2.length) Xw) form sw swI 240 (r_nil Xs) hXw hXs hC.2.2.2.2.2.2.1.2.2.2.1 hC.2.2.2.2.2.2.1.2.2.2.2.2.2) (va_cwS 3 hts gX2_tell_X2_tellUnits rfl rfl rfl (by decide +kernel) ⟨Nat.le_of_ble_eq_true rfl, Nat.le_of_ble_eq_true rfl⟩) gK_ok hK hW hS hA rfl hl.1 rfl (Nat.le_of_ble_eq_true rfl) dX2_tell_93 ⟨Nat.le_of_ble_eq_true rfl, Nat.le_of_ble_eq_true rfl⟩ rfl rfl (fun w_93 H locs hp_93 hW hz hS => ?_)
                subst w_93
                have hXw := hC.kSW (Y := r_tu 240 240 form (r_lu 240 ((rs r_29).1) (lf (rs r_29).2) ((rs r_29).2.length) Xw) (r_nil Xs)) hXw
                have hXs : rowAt (rowSet (rowSet (rowSet w sw swI cI 240 (r_nil Xs)) wk wkI cI 240 (r_lu 240 ((rs r_29).1) (lf (rs r_29).2) ((rs r_29).2.length) Xw)) sw swI cI 240 (r_tu 240 240 form (r_lu 240 ((rs r_29).1) (lf (rs r_29).2) ((rs r_29).2.length) Xw) (r_nil Xs))) sw swI cI 240 (r_tu 240 240 form (r_lu 240 ((rs r_29).1) (lf (rs r_29).2) ((rs r_29).2.length) Xw) (r_nil Xs)) := rowSet_at hXs.ne (r_tu_le hXs.2.2.1) (by omega)
                have hC := hC.second (r_tu 240 240 form (r_lu 240 ((rs r_29).1) (lf (rs r_29).2) ((rs r_29).2.length) Xw) (r_nil Xs)) hXs.2.2.1
                have hXc_93 := hXs.2.2.1
                refine lv_aload_n hx hb dX2_tell_96 rfl (lv_at hl 1 rfl) ?_
                refine lv_iload_n hx hb dX2_tell_97 rfl (lv_at hl 2 rfl) ?_
                refine lv_iconst (v := 2) hx hb dX2_tell_98 (by decide) ?_
                refine lv_aload_n hx hb dX2_tell_99 rfl (lv_at hl 1 rfl) ?_
                refine wd_get (ci := 2) (v := .ref sw) (C := RX2) (T := TX2) (N := 8) hx hb hts (by decide +kernel) hown hK.1 hW hC.1 rfl 5 (by decide) (hts (.fieldLink RX2 34 "CharRows" "secondWork" "LCharRows$Row;") (by decide +kernel)) (fun _ h9 => h9) rfl dX2_tell_100 ?_
                refine wd_callVi (As := [.int (nI tN), .int 2, .ref sw]) (rest := []) (c2 := 2) (s2 := 242) ⟨hx, hb, hml, hown, hts⟩ (k_X2_setText l D cI cT (rowSet (rowSet (rowSet w sw swI cI 240 (r_nil Xs)) wk wkI cI 240 (r_lu 240 ((rs r_29).1) (lf (rs r_29).2) ((rs r_29).2.length) Xw)) sw swI cI 240 (r_tu 240 240 form (r_lu 240 ((rs r_29).1) (lf (rs r_29).2) ((rs r_29).2.length) Xw) (r_nil Xs))) H.size o tA kA (nI kp.length) dr wk sw cd pl (fun t => (tx t).map aT) tN 2 sw swI 240 (r_tu 240 240 form (r_lu 240 ((rs r_29).1) (lf (rs r_29).2) ((rs r_29).2.length) Xw) (r_nil Xs)) hC.1 hC.2.1 (by omega) hXs) (cwV 3 hts gX2_tell_X2_setText rfl rfl rfl (by decide +kernel) ⟨Nat.le_of_ble_eq_true rfl, Nat.le_of_ble_eq_true rfl⟩) gK_ok hK hW (wd_recv (ci := 2) hK.1 hW rfl hC.1) hS hA rfl hl.1 rfl (Nat.le_of_ble_eq_true rfl) dX2_tell_103 ⟨Nat.le_of_ble_eq_true rfl, Nat.le_of_ble_eq_true rfl⟩ rfl rfl (fun r_103 w_103 H locs hp_103 hW hz hS => ?_)
                obtain ⟨q_r, q_e⟩ := hp_103
                subst r_103
                obtain ⟨w_s, aT', aI', hW, hC⟩ := c_setText hC (u_free_spec hwf.2.1 hwf.2.2.1).1 q_e hW
                refine wd_iret hx hb hr hlocks hW hS dX2_tell_106 ?_
                have e9 : s_tell (cd, pl, df, tx, kp, rs) (nI tN) (nI uN) form = (nI ((r_tu 240 240 form (r_lu 240 ((rs r_29).1) (lf (rs r_29).2) ((rs r_29).2.length) Xw) (r_nil Xs)).2), 0, pl, df, (va_up tx tN (some (u_free tx kp))), kp, (va_up rs (u_free tx kp) (2, rl (r_tu 240 240 form (r_lu 240 ((rs r_29).1) (lf (rs r_29).2) ((rs r_29).2.length) Xw) (r_nil Xs))))) := by simp only [s_tell, if_neg (not_or.mpr ⟨c_4, (not_or.mpr ⟨c_11, c_18⟩)⟩), s_w1, s_no, s_mk, s_brk, if_neg c_49, if_pos (Or.inr c_72), hcl_t, hcl_u, htx_29]; rw [show (u_ul (rs r_29).1 (rs r_29).2).flatMap (u_tu form) = rl (r_tu 240 240 form (r_lu 240 ((rs r_29).1) (lf (rs r_29).2) ((rs r_29).2.length) Xw) (r_nil Xs)) from by rw [rl_tu (by omega) (by rw [r_nil]; omega), rl_nil, List.nil_append, ← hxs], rl_len]
                show _ = (s_tell (cd, pl, df, tx, kp, rs) (nI tN) (nI uN) form).1 ∧ InvC cI cT o (s_tell (cd, pl, df, tx, kp, rs) (nI tN) (nI uN) form).2 _
                rw [e9]
                exact ⟨rfl, tA, kA, dr, drI, wk, wkI, sw, swI, aT', aI', Xd, hC⟩
          ·
            refine lv_aload_n hx hb dX2_tell_52 rfl (lv_at hl 1 rfl) ?_
            refine lv_iconst (v := 2) hx hb dX2_tell_53 (by decide) ?_
            refine wd_callVi (As := [.int 2]) (rest := []) (c2 := 0) (s2 := 0) ⟨hx, hb, hml, hown, hts⟩ (k_X2_refuse l D cI cT w H.size o tA kA (nI kp.length) dr wk sw cd pl 2 hC.1) (cwV 1 hts gX2_tell_X2_refuse rfl rfl rfl (by decide +kernel) ⟨Nat.le_of_ble_eq_true rfl, Nat.le_of_ble_eq_true rfl⟩) gK_ok hK hW (wd_recv (ci := 2) hK.1 hW rfl hC.1) hS hA rfl hl.1 rfl (Nat.le_of_ble_eq_true rfl) dX2_tell_54 ⟨Nat.le_of_ble_eq_true rfl, Nat.le_of_ble_eq_true rfl⟩ rfl rfl (fun r_54 w_54 H locs hp_54 hW hz hS => ?_)
            obtain ⟨q_r, q_w⟩ := hp_54
            subst r_54
            subst w_54
            have hC := hC.obj 2 pl
            refine W.widen (k := 2) (n := 242) (by omega) (by omega) ?_
            refine wd_iret hx hb hr hlocks hW hS dX2_tell_57 ?_
            have e9 : s_tell (cd, pl, df, tx, kp, rs) (nI tN) (nI uN) form = (0, 2, pl, df, tx, kp, rs) := by simp only [s_tell, if_neg (not_or.mpr ⟨c_4, (not_or.mpr ⟨c_11, c_18⟩)⟩), s_w1, s_no, s_mk, s_brk, if_pos c_49, hcl_t, hcl_u, htx_29]
            show _ = (s_tell (cd, pl, df, tx, kp, rs) (nI tN) (nI uN) form).1 ∧ InvC cI cT o (s_tell (cd, pl, df, tx, kp, rs) (nI tN) (nI uN) form).2 _
            rw [e9]
            exact ⟨rfl, tA, kA, dr, drI, wk, wkI, sw, swI, aT, aI, Xd, hC⟩
      ·
        have c_18 := j_bn c_18
        refine lv_ldc (v := (-2000000001)) hx hb hown (hts (.constant RX2 47 (-2000000001)) (by decide +kernel)) dX2_tell_21 ?_
        refine W.widen (k := 2) (n := 242) (by omega) (by omega) ?_
        refine wd_iret hx hb hr hlocks hW hS dX2_tell_23 ?_
        have e9 : s_tell (cd, pl, df, tx, kp, rs) (nI tN) (nI uN) form = ((-2000000001), cd, pl, df, tx, kp, rs) := by simp only [s_tell, if_pos (Or.inr (Or.inr c_18)), s_w1, s_no, s_mk, s_brk, hcl_t, hcl_u]
        show _ = (s_tell (cd, pl, df, tx, kp, rs) (nI tN) (nI uN) form).1 ∧ InvC cI cT o (s_tell (cd, pl, df, tx, kp, rs) (nI tN) (nI uN) form).2 _
        rw [e9]
        exact ⟨rfl, tA, kA, dr, drI, wk, wkI, sw, swI, aT, aI, Xd, hC⟩
set_option maxHeartbeats 4000000 in
set_option maxRecDepth 100000 in
theorem k_X2_join (l : Launch) (D : va_G) (cI cT : ClassId) (w : Wd) (sz : Nat) (o : Nat) (cd : Int32) (pl : Int32) (df : List Int32) (tx : Nat → Option Nat) (kp : List Nat) (rs : Rws) (t : Int32) (a : Int32) (b : Int32) (hwf : WF (cd, pl, df, tx, kp, rs)) (hI : InvC cI cT o (cd, pl, df, tx, kp, rs) w) : wd_Mi l D vwCl (gK D cI cT) yX2_join wsX2_join (wd_rm 4 2 242) [.ref o, .int t, .int a, .int b] w sz (fun r w' => r = (s_join (cd, pl, df, tx, kp, rs) t a b).1 ∧ InvC cI cT o (s_join (cd, pl, df, tx, kp, rs) t a b).2 w') := by
  refine wd_met (cc := cX2_join) (maxL := 6) (ret := (some .int)) (by decide) rfl (Nat.le_of_ble_eq_true rfl) ?_
  intro pg ev sg mi bl mt cde ls C0 hsz hK hW hl
  obtain ⟨hx, hb, hr, hml, hown, hts, hlocks, hnm⟩ := C0
  subst hsz
  have hown : sg.vm.findClass RX2 = some mi.cls := hown
  have hS : va_S (wd_A w sg.heap.size) sg.heap sg.heap [] := va_S.rf
  have hA : ∀ q, sg.heap.size ≤ q → wd_A w sg.heap.size q := fun q h => Or.inr h
  have hl : lv_has ls 6 [(0, .ref o), (1, .int t), (2, .int a), (3, .int b)] := hl
  obtain ⟨tA, kA, dr, drI, wk, wkI, sw, swI, aT, aI, Xd, hC⟩ := hI
  dsimp only at hC
  obtain ⟨Xw, hXw⟩ := hC.2.2.2.2.1
  obtain ⟨Xs, hXs⟩ := hC.2.2.2.2.2.1
  have hXd1 := hC.2.2.2.1.1.2.2.1
  have hdf := hC.2.2.2.1.2
  have hkp : kp.length ≤ 12 := hwf.2.2.1
  have hdl : df.length = Xd.2 := by rw [← hC.2.2.2.1.2, rl_len]
  have hdg : ∀ j, j < df.length → Xd.1 j = lf df j := fun j hj => by rw [← hdf, lf, rl_getD (by omega)]
  refine lv_iload_n hx hb dX2_join_0 rfl (lv_at hl 1 rfl) ?_
  refine wd_callSi (As := [.int t]) (rest := []) (c2 := 0) (s2 := 0) ⟨hx, hb, hml, hown, hts⟩ (k_X2_isNoText l D cI cT w sg.heap.size t ) (va_cwS 1 hts gX2_join_X2_isNoText rfl rfl rfl (by decide +kernel) ⟨Nat.le_of_ble_eq_true rfl, Nat.le_of_ble_eq_true rfl⟩) gK_ok hK hW hS hA rfl hl.1 rfl (Nat.le_of_ble_eq_true rfl) dX2_join_1 ⟨Nat.le_of_ble_eq_true rfl, Nat.le_of_ble_eq_true rfl⟩ rfl rfl (fun r_1 w_1 H locs hp_1 hW hz hS => ?_)
  obtain ⟨q_r, q_w⟩ := hp_1
  subst r_1
  subst w_1
  refine lv_if_ne (tgt := 21) hx hb dX2_join_4 (by decide) (fun c_4 => ?_) (fun c_4 => ?_)
  ·
    have c_4 := j_bn c_4
    refine lv_ldc (v := (-2000000001)) hx hb hown (hts (.constant RX2 47 (-2000000001)) (by decide +kernel)) dX2_join_21 ?_
    refine W.widen (k := 2) (n := 242) (by omega) (by omega) ?_
    refine wd_iret hx hb hr hlocks hW hS dX2_join_23 ?_
    have e9 : s_join (cd, pl, df, tx, kp, rs) t a b = ((-2000000001), cd, pl, df, tx, kp, rs) := by simp only [s_join, if_pos (Or.inl c_4), s_w2, s_no, s_mk]
    show _ = (s_join (cd, pl, df, tx, kp, rs) t a b).1 ∧ InvC cI cT o (s_join (cd, pl, df, tx, kp, rs) t a b).2 _
    rw [e9]
    exact ⟨rfl, tA, kA, dr, drI, wk, wkI, sw, swI, aT, aI, Xd, hC⟩
  ·
    have c_4 := j_b0 c_4
    obtain ⟨tN, htN, htE⟩ := nt_spec c_4
    subst htE
    have hcl_t : (nI tN).toNatClampNeg = tN := nI_clamp (by omega)
    refine lv_iload_n hx hb dX2_join_7 rfl (lv_at hl 2 rfl) ?_
    refine wd_callSi (As := [.int a]) (rest := []) (c2 := 0) (s2 := 0) ⟨hx, hb, hml, hown, hts⟩ (k_X2_isNoText l D cI cT w H.size a ) (va_cwS 1 hts gX2_join_X2_isNoText rfl rfl rfl (by decide +kernel) ⟨Nat.le_of_ble_eq_true rfl, Nat.le_of_ble_eq_true rfl⟩) gK_ok hK hW hS hA rfl hl.1 rfl (Nat.le_of_ble_eq_true rfl) dX2_join_8 ⟨Nat.le_of_ble_eq_true rfl, Nat.le_of_ble_eq_true rfl⟩ rfl rfl (fun r_8 w_8 H locs hp_8 hW hz hS => ?_)
    obtain ⟨q_r, q_w⟩ := hp_8
    subst r_8
    subst w_8
    refine lv_if_ne (tgt := 21) hx hb dX2_join_11 (by decide) (fun c_11 => ?_) (fun c_11 => ?_)
    ·
      have c_11 := j_bn c_11
      refine lv_ldc (v := (-2000000001)) hx hb hown (hts (.constant RX2 47 (-2000000001)) (by decide +kernel)) dX2_join_21 ?_
      refine W.widen (k := 2) (n := 242) (by omega) (by omega) ?_
      refine wd_iret hx hb hr hlocks hW hS dX2_join_23 ?_
      have e9 : s_join (cd, pl, df, tx, kp, rs) (nI tN) a b = ((-2000000001), cd, pl, df, tx, kp, rs) := by simp only [s_join, if_pos (Or.inr (Or.inl c_11)), s_w2, s_no, s_mk, hcl_t]
      show _ = (s_join (cd, pl, df, tx, kp, rs) (nI tN) a b).1 ∧ InvC cI cT o (s_join (cd, pl, df, tx, kp, rs) (nI tN) a b).2 _
      rw [e9]
      exact ⟨rfl, tA, kA, dr, drI, wk, wkI, sw, swI, aT, aI, Xd, hC⟩
    ·
      have c_11 := j_b0 c_11
      obtain ⟨aN, haN, haE⟩ := nt_spec c_11
      subst haE
      have hcl_a : (nI aN).toNatClampNeg = aN := nI_clamp (by omega)
      refine lv_iload_n hx hb dX2_join_14 rfl (lv_at hl 3 rfl) ?_
      refine wd_callSi (As := [.int b]) (rest := []) (c2 := 0) (s2 := 0) ⟨hx, hb, hml, hown, hts⟩ (k_X2_isNoText l D cI cT w H.size b ) (va_cwS 1 hts gX2_join_X2_isNoText rfl rfl rfl (by decide +kernel) ⟨Nat.le_of_ble_eq_true rfl, Nat.le_of_ble_eq_true rfl⟩) gK_ok hK hW hS hA rfl hl.1 rfl (Nat.le_of_ble_eq_true rfl) dX2_join_15 ⟨Nat.le_of_ble_eq_true rfl, Nat.le_of_ble_eq_true rfl⟩ rfl rfl (fun r_15 w_15 H locs hp_15 hW hz hS => ?_)
      obtain ⟨q_r, q_w⟩ := hp_15
      subst r_15
      subst w_15
      refine lv_if_eq (tgt := 24) hx hb dX2_join_18 (by decide) (fun c_18 => ?_) (fun c_18 => ?_)
      ·
        have c_18 := j_b0 c_18
        obtain ⟨bN, hbN, hbE⟩ := nt_spec c_18
        subst hbE
        have hcl_b : (nI bN).toNatClampNeg = bN := nI_clamp (by omega)
        refine lv_aload_n hx hb dX2_join_24 rfl (lv_at hl 0 rfl) ?_
        refine wd_get (ci := 2) (v := .ref tA) (C := RX2) (T := TX2) (N := 8) hx hb hts (by decide +kernel) hown hK.1 hW hC.1 rfl 0 (by decide) (hts (.fieldLink RX2 11 "CharRows" "texts" "[LCharRows$Text;") (by decide +kernel)) (fun _ h9 => h9) rfl dX2_join_25 ?_
        refine lv_iload_n hx hb dX2_join_28 rfl (lv_at hl 2 rfl) ?_
        refine wd_aldq hx hb hK.1 hW 1 hC.2.1 rfl (vp_in_nI (by omega) (by omega)) dX2_join_29 ?_
        rw [nI_clamp (by omega)]
        cases htx_29 : tx aN with
        | none =>
          refine wd_topR (y := .null) (by simp [htx_29, va_rf]) ?_
          refine lv_astoreN (lv' := [(4, .null), (0, .ref o), (1, .int (nI tN)), (2, .int (nI aN)), (3, .int (nI bN))]) hx hb dX2_join_30 hl (by decide) rfl (fun ls hl => ?_)
          refine lv_aload_n hx hb dX2_join_32 rfl (lv_at hl 1 rfl) ?_
          refine wd_get (ci := 2) (v := .ref tA) (C := RX2) (T := TX2) (N := 8) hx hb hts (by decide +kernel) hown hK.1 hW hC.1 rfl 0 (by decide) (hts (.fieldLink RX2 11 "CharRows" "texts" "[LCharRows$Text;") (by decide +kernel)) (fun _ h9 => h9) rfl dX2_join_33 ?_
          refine lv_iload_n hx hb dX2_join_36 rfl (lv_at hl 4 rfl) ?_
          refine wd_aldq hx hb hK.1 hW 1 hC.2.1 rfl (vp_in_nI (by omega) (by omega)) dX2_join_37 ?_
          rw [nI_clamp (by omega)]
          cases htx_37 : tx bN with
          | none =>
            refine wd_topR (y := .null) (by simp [htx_37, va_rf]) ?_
            refine lv_astoreN (lv' := [(5, .null), (4, .null), (0, .ref o), (1, .int (nI tN)), (2, .int (nI aN)), (3, .int (nI bN))]) hx hb dX2_join_38 hl (by decide) rfl (fun ls hl => ?_)
            refine lv_aloadN hx hb dX2_join_40 (lv_at hl 1 rfl) ?_
            refine lv_ifnullN (tgt := 50) hx hb dX2_join_42 (by decide) ?_
            refine lv_aload_n hx hb dX2_join_50 rfl (lv_at hl 2 rfl) ?_
            refine lv_iconst (v := 1) hx hb dX2_join_51 (by decide) ?_
            refine wd_callVi (As := [.int 1]) (rest := []) (c2 := 0) (s2 := 0) ⟨hx, hb, hml, hown, hts⟩ (k_X2_refuse l D cI cT w H.size o tA kA (nI kp.length) dr wk sw cd pl 1 hC.1) (cwV 1 hts gX2_join_X2_refuse rfl rfl rfl (by decide +kernel) ⟨Nat.le_of_ble_eq_true rfl, Nat.le_of_ble_eq_true rfl⟩) gK_ok hK hW (wd_recv (ci := 2) hK.1 hW rfl hC.1) hS hA rfl hl.1 rfl (Nat.le_of_ble_eq_true rfl) dX2_join_52 ⟨Nat.le_of_ble_eq_true rfl, Nat.le_of_ble_eq_true rfl⟩ rfl rfl (fun r_52 w_52 H locs hp_52 hW hz hS => ?_)
            obtain ⟨q_r, q_w⟩ := hp_52
            subst r_52
            subst w_52
            have hC := hC.obj 1 pl
            refine W.widen (k := 2) (n := 242) (by omega) (by omega) ?_
            refine wd_iret hx hb hr hlocks hW hS dX2_join_55 ?_
            have e9 : s_join (cd, pl, df, tx, kp, rs) (nI tN) (nI aN) (nI bN) = (0, 1, pl, df, tx, kp, rs) := by simp only [s_join, if_neg (not_or.mpr ⟨c_4, (not_or.mpr ⟨c_11, c_18⟩)⟩), s_w2, s_no, s_mk, hcl_t, hcl_a, hcl_b, htx_29, htx_37]
            show _ = (s_join (cd, pl, df, tx, kp, rs) (nI tN) (nI aN) (nI bN)).1 ∧ InvC cI cT o (s_join (cd, pl, df, tx, kp, rs) (nI tN) (nI aN) (nI bN)).2 _
            rw [e9]
            exact ⟨rfl, tA, kA, dr, drI, wk, wkI, sw, swI, aT, aI, Xd, hC⟩
          | some r_37 =>
            refine wd_topR (y := .ref (aT r_37)) (by simp [htx_37, va_rf]) ?_
            have hl_37 : live tx kp r_37 := Or.inl ⟨_, htx_37⟩
            have hok_37 : rOK (rs r_37) := (hwf.2.2.2.1 r_37 hl_37).2
            have hlen_37 := hok_37.len
            refine lv_astore (lv' := [(5, .ref (aT r_37)), (4, .null), (0, .ref o), (1, .int (nI tN)), (2, .int (nI aN)), (3, .int (nI bN))]) hx hb dX2_join_38 hl (by decide) rfl (fun ls hl => ?_)
            refine lv_aloadN hx hb dX2_join_40 (lv_at hl 1 rfl) ?_
            refine lv_ifnullN (tgt := 50) hx hb dX2_join_42 (by decide) ?_
            refine lv_aload_n hx hb dX2_join_50 rfl (lv_at hl 2 rfl) ?_
            refine lv_iconst (v := 1) hx hb dX2_join_51 (by decide) ?_
            refine wd_callVi (As := [.int 1]) (rest := []) (c2 := 0) (s2 := 0) ⟨hx, hb, hml, hown, hts⟩ (k_X2_refuse l D cI cT w H.size o tA kA (nI kp.length) dr wk sw cd pl 1 hC.1) (cwV 1 hts gX2_join_X2_refuse rfl rfl rfl (by decide +kernel) ⟨Nat.le_of_ble_eq_true rfl, Nat.le_of_ble_eq_true rfl⟩) gK_ok hK hW (wd_recv (ci := 2) hK.1 hW rfl hC.1) hS hA rfl hl.1 rfl (Nat.le_of_ble_eq_true rfl) dX2_join_52 ⟨Nat.le_of_ble_eq_true rfl, Nat.le_of_ble_eq_true rfl⟩ rfl rfl (fun r_52 w_52 H locs hp_52 hW hz hS => ?_)
            obtain ⟨q_r, q_w⟩ := hp_52
            subst r_52
            subst w_52
            have hC := hC.obj 1 pl
            refine W.widen (k := 2) (n := 242) (by omega) (by omega) ?_
            refine wd_iret hx hb hr hlocks hW hS dX2_join_55 ?_
            have e9 : s_join (cd, pl, df, tx, kp, rs) (nI tN) (nI aN) (nI bN) = (0, 1, pl, df, tx, kp, rs) := by simp only [s_join, if_neg (not_or.mpr ⟨c_4, (not_or.mpr ⟨c_11, c_18⟩)⟩), s_w2, s_no, s_mk, hcl_t, hcl_a, hcl_b, htx_29, htx_37]
            show _ = (s_join (cd, pl, df, tx, kp, rs) (nI tN) (nI aN) (nI bN)).1 ∧ InvC cI cT o (s_join (cd, pl, df, tx, kp, rs) (nI tN) (nI aN) (nI bN)).2 _
            rw [e9]
            exact ⟨rfl, tA, kA, dr, drI, wk, wkI, sw, swI, aT, aI, Xd, hC⟩
        | some r_29 =>
          refine wd_topR (y := .ref (aT r_29)) (by simp [htx_29, va_rf]) ?_
          have hl_29 : live tx kp r_29 := Or.inl ⟨_, htx_29⟩
          have hok_29 : rOK (rs r_29) := (hwf.2.2.2.1 r_29 hl_29).2
          have hlen_29 := hok_29.len
          refine lv_astore (lv' := [(4, .ref (aT r_29)), (0, .ref o), (1, .int (nI tN)), (2, .int (nI aN)), (3, .int (nI bN))]) hx hb dX2_join_30 hl (by decide) rfl (fun ls hl => ?_)
          refine lv_aload_n hx hb dX2_join_32 rfl (lv_at hl 1 rfl) ?_
          refine wd_get (ci := 2) (v := .ref tA) (C := RX2) (T := TX2) (N := 8) hx hb hts (by decide +kernel) hown hK.1 hW hC.1 rfl 0 (by decide) (hts (.fieldLink RX2 11 "CharRows" "texts" "[LCharRows$Text;") (by decide +kernel)) (fun _ h9 => h9) rfl dX2_join_33 ?_
          refine lv_iload_n hx hb dX2_join_36 rfl (lv_at hl 4 rfl) ?_
          refine wd_aldq hx hb hK.1 hW 1 hC.2.1 rfl (vp_in_nI (by omega) (by omega)) dX2_join_37 ?_
          rw [nI_clamp (by omega)]
          cases htx_37 : tx bN with
          | none =>
            refine wd_topR (y := .null) (by simp [htx_37, va_rf]) ?_
            refine lv_astoreN (lv' := [(5, .null), (4, .ref (aT r_29)), (0, .ref o), (1, .int (nI tN)), (2, .int (nI aN)), (3, .int (nI bN))]) hx hb dX2_join_38 hl (by decide) rfl (fun ls hl => ?_)
            refine lv_aload hx hb dX2_join_40 (lv_at hl 1 rfl) ?_
            refine lv_ifnull hx hb dX2_join_42 ?_
            refine lv_aloadN hx hb dX2_join_45 (lv_at hl 0 rfl) ?_
            refine lv_ifnonnullN hx hb dX2_join_47 ?_
            refine lv_aload_n hx hb dX2_join_50 rfl (lv_at hl 2 rfl) ?_
            refine lv_iconst (v := 1) hx hb dX2_join_51 (by decide) ?_
            refine wd_callVi (As := [.int 1]) (rest := []) (c2 := 0) (s2 := 0) ⟨hx, hb, hml, hown, hts⟩ (k_X2_refuse l D cI cT w H.size o tA kA (nI kp.length) dr wk sw cd pl 1 hC.1) (cwV 1 hts gX2_join_X2_refuse rfl rfl rfl (by decide +kernel) ⟨Nat.le_of_ble_eq_true rfl, Nat.le_of_ble_eq_true rfl⟩) gK_ok hK hW (wd_recv (ci := 2) hK.1 hW rfl hC.1) hS hA rfl hl.1 rfl (Nat.le_of_ble_eq_true rfl) dX2_join_52 ⟨Nat.le_of_ble_eq_true rfl, Nat.le_of_ble_eq_true rfl⟩ rfl rfl (fun r_52 w_52 H locs hp_52 hW hz hS => ?_)
            obtain ⟨q_r, q_w⟩ := hp_52
            subst r_52
            subst w_52
            have hC := hC.obj 1 pl
            refine W.widen (k := 2) (n := 242) (by omega) (by omega) ?_
            refine wd_iret hx hb hr hlocks hW hS dX2_join_55 ?_
            have e9 : s_join (cd, pl, df, tx, kp, rs) (nI tN) (nI aN) (nI bN) = (0, 1, pl, df, tx, kp, rs) := by simp only [s_join, if_neg (not_or.mpr ⟨c_4, (not_or.mpr ⟨c_11, c_18⟩)⟩), s_w2, s_no, s_mk, hcl_t, hcl_a, hcl_b, htx_29, htx_37]
            show _ = (s_join (cd, pl, df, tx, kp, rs) (nI tN) (nI aN) (nI bN)).1 ∧ InvC cI cT o (s_join (cd, pl, df, tx, kp, rs) (nI tN) (nI aN) (nI bN)).2 _
            rw [e9]
            exact ⟨rfl, tA, kA, dr, drI, wk, wkI, sw, swI, aT, aI, Xd, hC⟩
          | some r_37 =>
            refine wd_topR (y := .ref (aT r_37)) (by simp [htx_37, va_rf]) ?_
            have hl_37 : live tx kp r_37 := Or.inl ⟨_, htx_37⟩
            have hok_37 : rOK (rs r_37) := (hwf.2.2.2.1 r_37 hl_37).2
            have hlen_37 := hok_37.len
            refine lv_astore (lv' := [(5, .ref (aT r_37)), (4, .ref (aT r_29)), (0, .ref o), (1, .int (nI tN)), (2, .int (nI aN)), (3, .int (nI bN))]) hx hb dX2_join_38 hl (by decide) rfl (fun ls hl => ?_)
            refine lv_aload hx hb dX2_join_40 (lv_at hl 1 rfl) ?_
            refine lv_ifnull hx hb dX2_join_42 ?_
            refine lv_aload hx hb dX2_join_45 (lv_at hl 0 rfl) ?_
            refine lv_ifnonnull (tgt := 56) hx hb dX2_join_47 (by decide) ?_
            refine lv_aload hx hb dX2_join_56 (lv_at hl 1 rfl) ?_
            refine wd_get (ci := 1) (v := .int ((rs r_29).1)) (C := RX1) (T := TX1) (N := 2) hx hb hts (by decide +kernel) hown hK.1 hW (hC.2.2.2.2.2.2.2.1 r_29 hl_29).1 rfl 0 (by decide) (hts (.fieldLink RX2 94 "CharRows$Text" "kindOfItems" "I") (by decide +kernel)) (fun _ h9 => h9) rfl dX2_join_58 ?_
            refine lv_aload hx hb dX2_join_61 (lv_at hl 0 rfl) ?_
            refine wd_get (ci := 1) (v := .int ((rs r_37).1)) (C := RX1) (T := TX1) (N := 2) hx hb hts (by decide +kernel) hown hK.1 hW (hC.2.2.2.2.2.2.2.1 r_37 hl_37).1 rfl 0 (by decide) (hts (.fieldLink RX2 94 "CharRows$Text" "kindOfItems" "I") (by decide +kernel)) (fun _ h9 => h9) rfl dX2_join_63 ?_
            refine lv_icmp_eq (tgt := 75) hx hb dX2_join_66 (by decide) (fun c_66 => ?_) (fun c_66 => ?_)
            ·
              refine lv_aload hx hb dX2_join_75 (lv_at hl 1 rfl) ?_
              refine wd_get (ci := 1) (v := .ref (aI r_29)) (C := RX1) (T := TX1) (N := 2) hx hb hts (by decide +kernel) hown hK.1 hW (hC.2.2.2.2.2.2.2.1 r_29 hl_29).1 rfl 1 (by decide) (hts (.fieldLink RX2 93 "CharRows$Text" "items" "[I") (by decide +kernel)) (fun _ h9 => h9) rfl dX2_join_77 ?_
              refine wd_alen hx hb hK.1 hW 0 (hC.2.2.2.2.2.2.2.1 r_29 hl_29).2.1 rfl dX2_join_80 ?_
              refine lv_aload hx hb dX2_join_81 (lv_at hl 0 rfl) ?_
              refine wd_get (ci := 1) (v := .ref (aI r_37)) (C := RX1) (T := TX1) (N := 2) hx hb hts (by decide +kernel) hown hK.1 hW (hC.2.2.2.2.2.2.2.1 r_37 hl_37).1 rfl 1 (by decide) (hts (.fieldLink RX2 93 "CharRows$Text" "items" "[I") (by decide +kernel)) (fun _ h9 => h9) rfl dX2_join_83 ?_
              refine wd_alen hx hb hK.1 hW 0 (hC.2.2.2.2.2.2.2.1 r_37 hl_37).2.1 rfl dX2_join_86 ?_
              refine lv_iadd hx hb dX2_join_87 ?_
              refine wd_topE (y := nI ((rs r_29).2.length + (rs r_37).2.length)) (nI_add _ _) ?_
              refine lv_aload hx hb dX2_join_88 (lv_at hl 1 rfl) ?_
              refine wd_callVi (As := []) (rest := [.int (nI ((rs r_29).2.length + (rs r_37).2.length))]) (c2 := 0) (s2 := 0) ⟨hx, hb, hml, hown, hts⟩ (k_X1_mostItems l D cI cT w H.size (aT r_29) (aI r_29) ((rs r_29).1) ((rs r_29).2.length) (lf (rs r_29).2) (⟨(hC.2.2.2.2.2.2.2.1 r_29 hl_29).1, (hC.2.2.2.2.2.2.2.1 r_29 hl_29).2.1, by omega⟩)) (cwV 0 hts gX2_join_X1_mostItems rfl rfl rfl (by decide +kernel) ⟨Nat.le_of_ble_eq_true rfl, Nat.le_of_ble_eq_true rfl⟩) gK_ok hK hW (wd_recv (ci := 1) hK.1 hW rfl (hC.2.2.2.2.2.2.2.1 r_29 hl_29).1) hS hA rfl hl.1 rfl (Nat.le_of_ble_eq_true rfl) dX2_join_90 ⟨Nat.le_of_ble_eq_true rfl, Nat.le_of_ble_eq_true rfl⟩ rfl rfl (fun r_90 w_90 H locs hp_90 hW hz hS => ?_)
              obtain ⟨q_r, q_w⟩ := hp_90
              subst r_90
              subst w_90
              refine wd_topE (y := nI (if (rs r_29).1 = 2 then 240 else 60)) (by split <;> rfl) ?_
              have hmo : (if (rs r_29).1 = 2 then 240 else 60) ≤ 240 := by split <;> omega
              refine lv_icmp_le (tgt := 103) hx hb dX2_join_93 (by decide) (fun c_93 => ?_) (fun c_93 => ?_)
              ·
                have c_93 : (rs r_29).2.length + (rs r_37).2.length ≤ (if (rs r_29).1 = 2 then 240 else 60) := (nI_leI (by omega) (by omega)).mp (show (nI ((rs r_29).2.length + (rs r_37).2.length) ≤ nI (if (rs r_29).1 = 2 then 240 else 60)) from c_93)
                refine lv_aload_n hx hb dX2_join_103 rfl (lv_at hl 2 rfl) ?_
                refine wd_get (ci := 2) (v := .ref wk) (C := RX2) (T := TX2) (N := 8) hx hb hts (by decide +kernel) hown hK.1 hW hC.1 rfl 4 (by decide) (hts (.fieldLink RX2 31 "CharRows" "work" "LCharRows$Row;") (by decide +kernel)) (fun _ h9 => h9) rfl dX2_join_104 ?_
                refine wd_callVv (As := []) (rest := []) (c2 := 0) (s2 := 0) ⟨hx, hb, hml, hown, hts⟩ (k_X0_empty l D cI cT w H.size wk wkI 240 Xw hXw) (cwV 0 hts gX2_join_X0_empty rfl rfl rfl (by decide +kernel) ⟨Nat.le_of_ble_eq_true rfl, Nat.le_of_ble_eq_true rfl⟩) gK_ok hK hW (wd_recv (ci := 0) hK.1 hW rfl hXw.1) hS hA rfl hl.1 rfl (Nat.le_of_ble_eq_true rfl) dX2_join_107 ⟨Nat.le_of_ble_eq_true rfl, Nat.le_of_ble_eq_true rfl⟩ rfl rfl (fun w_107 H locs hp_107 hW hz hS => ?_)
                subst w_107
                have hXs := hC.kWS (Y := r_nil Xw) hXs
                have hXw : rowAt (rowSet w wk wkI cI 240 (r_nil Xw)) wk wkI cI 240 (r_nil Xw) := rowSet_at hXw.ne (Nat.zero_le _) (by omega)
                have hC := hC.work (r_nil Xw) hXw.2.2.1
                have hXc_107 := hXw.2.2.1
                refine lv_aload_n hx hb dX2_join_110 rfl (lv_at hl 2 rfl) ?_
                refine wd_get (ci := 2) (v := .ref wk) (C := RX2) (T := TX2) (N := 8) hx hb hts (by decide +kernel) hown hK.1 hW hC.1 rfl 4 (by decide) (hts (.fieldLink RX2 31 "CharRows" "work" "LCharRows$Row;") (by decide +kernel)) (fun _ h9 => h9) rfl dX2_join_111 ?_
                refine lv_aload hx hb dX2_join_114 (lv_at hl 1 rfl) ?_
                refine wd_get (ci := 1) (v := .ref (aI r_29)) (C := RX1) (T := TX1) (N := 2) hx hb hts (by decide +kernel) hown hK.1 hW (hC.2.2.2.2.2.2.2.1 r_29 hl_29).1 rfl 1 (by decide) (hts (.fieldLink RX2 93 "CharRows$Text" "items" "[I") (by decide +kernel)) (fun _ h9 => h9) rfl dX2_join_116 ?_
                refine wd_callVv (As := [.ref (aI r_29)]) (rest := []) (c2 := 0) (s2 := 0) ⟨hx, hb, hml, hown, hts⟩ (k_X0_addAll l D cI cT (rowSet w wk wkI cI 240 (r_nil Xw)) H.size wk wkI 240 (r_nil Xw) (aI r_29) ((rs r_29).2.length) (lf (rs r_29).2) hXw ((hC.2.2.2.2.2.2.2.1 r_29 hl_29).2.1) (by omega) ((hC.2.2.2.2.2.2.2.1 r_29 hl_29).2.2.2.1)) (cwV 1 hts gX2_join_X0_addAll rfl rfl rfl (by decide +kernel) ⟨Nat.le_of_ble_eq_true rfl, Nat.le_of_ble_eq_true rfl⟩) gK_ok hK hW (wd_recv (ci := 0) hK.1 hW rfl hXw.1) hS hA rfl hl.1 rfl (Nat.le_of_ble_eq_true rfl) dX2_join_119 ⟨Nat.le_of_ble_eq_true rfl, Nat.le_of_ble_eq_true rfl⟩ rfl rfl (fun w_119 H locs hp_119 hW hz hS => ?_)
                subst w_119
                have hXs := hC.kWS (Y := r_all 240 (lf (rs r_29).2) ((rs r_29).2.length) (r_nil Xw)) hXs
                have hXw : rowAt (rowSet (rowSet w wk wkI cI 240 (r_nil Xw)) wk wkI cI 240 (r_all 240 (lf (rs r_29).2) ((rs r_29).2.length) (r_nil Xw))) wk wkI cI 240 (r_all 240 (lf (rs r_29).2) ((rs r_29).2.length) (r_nil Xw)) := rowSet_at hXw.ne (r_all_le hXw.2.2.1) (by omega)
                have hC := hC.work (r_all 240 (lf (rs r_29).2) ((rs r_29).2.length) (r_nil Xw)) hXw.2.2.1
                have hXc_119 := hXw.2.2.1
                refine lv_aload_n hx hb dX2_join_122 rfl (lv_at hl 2 rfl) ?_
                refine wd_get (ci := 2) (v := .ref wk) (C := RX2) (T := TX2) (N := 8) hx hb hts (by decide +kernel) hown hK.1 hW hC.1 rfl 4 (by decide) (hts (.fieldLink RX2 31 "CharRows" "work" "LCharRows$Row;") (by decide +kernel)) (fun _ h9 => h9) rfl dX2_join_123 ?_
                refine lv_aload hx hb dX2_join_126 (lv_at hl 0 rfl) ?_
                refine wd_get (ci := 1) (v := .ref (aI r_37)) (C := RX1) (T := TX1) (N := 2) hx hb hts (by decide +kernel) hown hK.1 hW (hC.2.2.2.2.2.2.2.1 r_37 hl_37).1 rfl 1 (by decide) (hts (.fieldLink RX2 93 "CharRows$Text" "items" "[I") (by decide +kernel)) (fun _ h9 => h9) rfl dX2_join_128 ?_
                refine wd_callVv (As := [.ref (aI r_37)]) (rest := []) (c2 := 0) (s2 := 0) ⟨hx, hb, hml, hown, hts⟩ (k_X0_addAll l D cI cT (rowSet (rowSet w wk wkI cI 240 (r_nil Xw)) wk wkI cI 240 (r_all 240 (lf (rs r_29).2) ((rs r_29).2.length) (r_nil Xw))) H.size wk wkI 240 (r_all 240 (lf (rs r_29).2) ((rs r_29).2.length) (r_nil Xw)) (aI r_37) ((rs r_37).2.length) (lf (rs r_37).2) hXw ((hC.2.2.2.2.2.2.2.1 r_37 hl_37).2.1) (by omega) ((hC.2.2.2.2.2.2.2.1 r_37 hl_37).2.2.2.1)) (cwV 1 hts gX2_join_X0_addAll rfl rfl rfl (by decide +kernel) ⟨Nat.le_of_ble_eq_true rfl, Nat.le_of_ble_eq_true rfl⟩) gK_ok hK hW (wd_recv (ci := 0) hK.1 hW rfl hXw.1) hS hA rfl hl.1 rfl (Nat.le_of_ble_eq_true rfl) dX2_join_131 ⟨Nat.le_of_ble_eq_true rfl, Nat.le_of_ble_eq_true rfl⟩ rfl rfl (fun w_131 H locs hp_131 hW hz hS => ?_)
                subst w_131
                have hXs := hC.kWS (Y := r_all 240 (lf (rs r_37).2) ((rs r_37).2.length) (r_all 240 (lf (rs r_29).2) ((rs r_29).2.length) (r_nil Xw))) hXs
                have hXw : rowAt (rowSet (rowSet (rowSet w wk wkI cI 240 (r_nil Xw)) wk wkI cI 240 (r_all 240 (lf (rs r_29).2) ((rs r_29).2.length) (r_nil Xw))) wk wkI cI 240 (r_all 240 (lf (rs r_37).2) ((rs r_37).2.length) (r_all 240 (lf (rs r_29).2) ((rs r_29).2.length) (r_nil Xw)))) wk wkI cI 240 (r_all 240 (lf (rs r_37).2) ((rs r_37).2.length) (r_all 240 (lf (rs r_29).2) ((rs r_29).2.length) (r_nil Xw))) := rowSet_at hXw.ne (r_all_le hXw.2.2.1) (by omega)
                have hC := hC.work (r_all 240 (lf (rs r_37).2) ((rs r_37).2.length) (r_all 240 (lf (rs r_29).2) ((rs r_29).2.length) (r_nil Xw))) hXw.2.2.1
                have hXc_131 := hXw.2.2.1
                refine lv_aload_n hx hb dX2_join_134 rfl (lv_at hl 2 rfl) ?_
                refine lv_iload_n hx hb dX2_join_135 rfl (lv_at hl 3 rfl) ?_
                refine lv_aload hx hb dX2_join_136 (lv_at hl 1 rfl) ?_
                refine wd_get (ci := 1) (v := .int ((rs r_29).1)) (C := RX1) (T := TX1) (N := 2) hx hb hts (by decide +kernel) hown hK.1 hW (hC.2.2.2.2.2.2.2.1 r_29 hl_29).1 rfl 0 (by decide) (hts (.fieldLink RX2 94 "CharRows$Text" "kindOfItems" "I") (by decide +kernel)) (fun _ h9 => h9) rfl dX2_join_138 ?_
                refine lv_aload_n hx hb dX2_join_141 rfl (lv_at hl 2 rfl) ?_
                refine wd_get (ci := 2) (v := .ref wk) (C := RX2) (T := TX2) (N := 8) hx hb hts (by decide +kernel) hown hK.1 hW hC.1 rfl 4 (by decide) (hts (.fieldLink RX2 31 "CharRows" "work" "LCharRows$Row;") (by decide +kernel)) (fun _ h9 => h9) rfl dX2_join_142 ?_
                refine wd_callVi (As := [.int (nI tN), .int ((rs r_29).1), .ref wk]) (rest := []) (c2 := 2) (s2 := 242) ⟨hx, hb, hml, hown, hts⟩ (k_X2_setText l D cI cT (rowSet (rowSet (rowSet w wk wkI cI 240 (r_nil Xw)) wk wkI cI 240 (r_all 240 (lf (rs r_29).2) ((rs r_29).2.length) (r_nil Xw))) wk wkI cI 240 (r_all 240 (lf (rs r_37).2) ((rs r_37).2.length) (r_all 240 (lf (rs r_29).2) ((rs r_29).2.length) (r_nil Xw)))) H.size o tA kA (nI kp.length) dr wk sw cd pl (fun t => (tx t).map aT) tN ((rs r_29).1) wk wkI 240 (r_all 240 (lf (rs r_37).2) ((rs r_37).2.length) (r_all 240 (lf (rs r_29).2) ((rs r_29).2.length) (r_nil Xw))) hC.1 hC.2.1 (by omega) hXw) (cwV 3 hts gX2_join_X2_setText rfl rfl rfl (by decide +kernel) ⟨Nat.le_of_ble_eq_true rfl, Nat.le_of_ble_eq_true rfl⟩) gK_ok hK hW (wd_recv (ci := 2) hK.1 hW rfl hC.1) hS hA rfl hl.1 rfl (Nat.le_of_ble_eq_true rfl) dX2_join_145 ⟨Nat.le_of_ble_eq_true rfl, Nat.le_of_ble_eq_true rfl⟩ rfl rfl (fun r_145 w_145 H locs hp_145 hW hz hS => ?_)
                obtain ⟨q_r, q_e⟩ := hp_145
                subst r_145
                obtain ⟨w_s, aT', aI', hW, hC⟩ := c_setText hC (u_free_spec hwf.2.1 hwf.2.2.1).1 q_e hW
                refine wd_iret hx hb hr hlocks hW hS dX2_join_148 ?_
                have e9 : s_join (cd, pl, df, tx, kp, rs) (nI tN) (nI aN) (nI bN) = (nI ((r_all 240 (lf (rs r_37).2) ((rs r_37).2.length) (r_all 240 (lf (rs r_29).2) ((rs r_29).2.length) (r_nil Xw))).2), 0, pl, df, (va_up tx tN (some (u_free tx kp))), kp, (va_up rs (u_free tx kp) ((rs r_29).1, rl (r_all 240 (lf (rs r_37).2) ((rs r_37).2.length) (r_all 240 (lf (rs r_29).2) ((rs r_29).2.length) (r_nil Xw)))))) := by simp only [s_join, if_neg (not_or.mpr ⟨c_4, (not_or.mpr ⟨c_11, c_18⟩)⟩), s_w2, s_no, s_mk, if_neg (not_not_intro c_66), if_neg (show ¬ (if (rs r_29).1 = 2 then 240 else 60) < (rs r_29).2.length + (rs r_37).2.length by omega), hcl_t, hcl_a, hcl_b, htx_29, htx_37]; rw [show (rs r_29).2 ++ (rs r_37).2 = rl (r_all 240 (lf (rs r_37).2) ((rs r_37).2.length) (r_all 240 (lf (rs r_29).2) ((rs r_29).2.length) (r_nil Xw))) from by rw [rl_all2 (by omega)], rl_len]
                show _ = (s_join (cd, pl, df, tx, kp, rs) (nI tN) (nI aN) (nI bN)).1 ∧ InvC cI cT o (s_join (cd, pl, df, tx, kp, rs) (nI tN) (nI aN) (nI bN)).2 _
                rw [e9]
                exact ⟨rfl, tA, kA, dr, drI, wk, wkI, sw, swI, aT', aI', Xd, hC⟩
              ·
                have c_93 : ¬ ((rs r_29).2.length + (rs r_37).2.length ≤ (if (rs r_29).1 = 2 then 240 else 60)) := fun q9 => absurd ((nI_leI (by omega) (by omega)).mpr q9) (show ¬ (nI ((rs r_29).2.length + (rs r_37).2.length) ≤ nI (if (rs r_29).1 = 2 then 240 else 60)) from c_93)
                refine lv_aload_n hx hb dX2_join_96 rfl (lv_at hl 2 rfl) ?_
                refine lv_bipush (v := 6) hx hb dX2_join_97 (by decide) ?_
                refine wd_callVi (As := [.int 6]) (rest := []) (c2 := 0) (s2 := 0) ⟨hx, hb, hml, hown, hts⟩ (k_X2_refuse l D cI cT w H.size o tA kA (nI kp.length) dr wk sw cd pl 6 hC.1) (cwV 1 hts gX2_join_X2_refuse rfl rfl rfl (by decide +kernel) ⟨Nat.le_of_ble_eq_true rfl, Nat.le_of_ble_eq_true rfl⟩) gK_ok hK hW (wd_recv (ci := 2) hK.1 hW rfl hC.1) hS hA rfl hl.1 rfl (Nat.le_of_ble_eq_true rfl) dX2_join_99 ⟨Nat.le_of_ble_eq_true rfl, Nat.le_of_ble_eq_true rfl⟩ rfl rfl (fun r_99 w_99 H locs hp_99 hW hz hS => ?_)
                obtain ⟨q_r, q_w⟩ := hp_99
                subst r_99
                subst w_99
                have hC := hC.obj 6 pl
                refine W.widen (k := 2) (n := 242) (by omega) (by omega) ?_
                refine wd_iret hx hb hr hlocks hW hS dX2_join_102 ?_
                have e9 : s_join (cd, pl, df, tx, kp, rs) (nI tN) (nI aN) (nI bN) = (0, 6, pl, df, tx, kp, rs) := by simp only [s_join, if_neg (not_or.mpr ⟨c_4, (not_or.mpr ⟨c_11, c_18⟩)⟩), s_w2, s_no, s_mk, if_neg (not_not_intro c_66), if_pos (show (if (rs r_29).1 = 2 then 240 else 60) < (rs r_29).2.length + (rs r_37).2.length by omega), hcl_t, hcl_a, hcl_b, htx_29, htx_37]
                show _ = (s_join (cd, pl, df, tx, kp, rs) (nI tN) (nI aN) (nI bN)).1 ∧ InvC cI cT o (s_join (cd, pl, df, tx, kp, rs) (nI tN) (nI aN) (nI bN)).2 _
                rw [e9]
                exact ⟨rfl, tA, kA, dr, drI, wk, wkI, sw, swI, aT, aI, Xd, hC⟩
            ·
              refine lv_aload_n hx hb dX2_join_69 rfl (lv_at hl 2 rfl) ?_
              refine lv_iconst (v := 2) hx hb dX2_join_70 (by decide) ?_
              refine wd_callVi (As := [.int 2]) (rest := []) (c2 := 0) (s2 := 0) ⟨hx, hb, hml, hown, hts⟩ (k_X2_refuse l D cI cT w H.size o tA kA (nI kp.length) dr wk sw cd pl 2 hC.1) (cwV 1 hts gX2_join_X2_refuse rfl rfl rfl (by decide +kernel) ⟨Nat.le_of_ble_eq_true rfl, Nat.le_of_ble_eq_true rfl⟩) gK_ok hK hW (wd_recv (ci := 2) hK.1 hW rfl hC.1) hS hA rfl hl.1 rfl (Nat.le_of_ble_eq_true rfl) dX2_join_71 ⟨Nat.le_of_ble_eq_true rfl, Nat.le_of_ble_eq_true rfl⟩ rfl rfl (fun r_71 w_71 H locs hp_71 hW hz hS => ?_)
              obtain ⟨q_r, q_w⟩ := hp_71
              subst r_71
              subst w_71
              have hC := hC.obj 2 pl
              refine W.widen (k := 2) (n := 242) (by omega) (by omega) ?_
              refine wd_iret hx hb hr hlocks hW hS dX2_join_74 ?_
              have e9 : s_join (cd, pl, df, tx, kp, rs) (nI tN) (nI aN) (nI bN) = (0, 2, pl, df, tx, kp, rs) := by simp only [s_join, if_neg (not_or.mpr ⟨c_4, (not_or.mpr ⟨c_11, c_18⟩)⟩), s_w2, s_no, s_mk, if_pos c_66, hcl_t, hcl_a, hcl_b, htx_29, htx_37]
              show _ = (s_join (cd, pl, df, tx, kp, rs) (nI tN) (nI aN) (nI bN)).1 ∧ InvC cI cT o (s_join (cd, pl, df, tx, kp, rs) (nI tN) (nI aN) (nI bN)).2 _
              rw [e9]
              exact ⟨rfl, tA, kA, dr, drI, wk, wkI, sw, swI, aT, aI, Xd, hC⟩
      ·
        have c_18 := j_bn c_18
        refine lv_ldc (v := (-2000000001)) hx hb hown (hts (.constant RX2 47 (-2000000001)) (by decide +kernel)) dX2_join_21 ?_
        refine W.widen (k := 2) (n := 242) (by omega) (by omega) ?_
        refine wd_iret hx hb hr hlocks hW hS dX2_join_23 ?_
        have e9 : s_join (cd, pl, df, tx, kp, rs) (nI tN) (nI aN) b = ((-2000000001), cd, pl, df, tx, kp, rs) := by simp only [s_join, if_pos (Or.inr (Or.inr c_18)), s_w2, s_no, s_mk, hcl_t, hcl_a]
        show _ = (s_join (cd, pl, df, tx, kp, rs) (nI tN) (nI aN) b).1 ∧ InvC cI cT o (s_join (cd, pl, df, tx, kp, rs) (nI tN) (nI aN) b).2 _
        rw [e9]
        exact ⟨rfl, tA, kA, dr, drI, wk, wkI, sw, swI, aT, aI, Xd, hC⟩
set_option maxHeartbeats 4000000 in
set_option maxRecDepth 100000 in
theorem k_X2_change (l : Launch) (D : va_G) (cI cT : ClassId) (w : Wd) (sz : Nat) (o : Nat) (cd : Int32) (pl : Int32) (df : List Int32) (tx : Nat → Option Nat) (kp : List Nat) (rs : Rws) (t : Int32) (u : Int32) (way : Int32) (hwf : WF (cd, pl, df, tx, kp, rs)) (hI : InvC cI cT o (cd, pl, df, tx, kp, rs) w) : wd_Mi l D vwCl (gK D cI cT) yX2_change wsX2_change (wd_rm 4 2 242) [.ref o, .int t, .int u, .int way] w sz (fun r w' => r = (s_change (cd, pl, df, tx, kp, rs) t u way).1 ∧ InvC cI cT o (s_change (cd, pl, df, tx, kp, rs) t u way).2 w') := by
  refine wd_met (cc := cX2_change) (maxL := 6) (ret := (some .int)) (by decide) rfl (Nat.le_of_ble_eq_true rfl) ?_
  intro pg ev sg mi bl mt cde ls C0 hsz hK hW hl
  obtain ⟨hx, hb, hr, hml, hown, hts, hlocks, hnm⟩ := C0
  subst hsz
  have hown : sg.vm.findClass RX2 = some mi.cls := hown
  have hS : va_S (wd_A w sg.heap.size) sg.heap sg.heap [] := va_S.rf
  have hA : ∀ q, sg.heap.size ≤ q → wd_A w sg.heap.size q := fun q h => Or.inr h
  have hl : lv_has ls 6 [(0, .ref o), (1, .int t), (2, .int u), (3, .int way)] := hl
  obtain ⟨tA, kA, dr, drI, wk, wkI, sw, swI, aT, aI, Xd, hC⟩ := hI
  dsimp only at hC
  obtain ⟨Xw, hXw⟩ := hC.2.2.2.2.1
  obtain ⟨Xs, hXs⟩ := hC.2.2.2.2.2.1
  have hXd1 := hC.2.2.2.1.1.2.2.1
  have hdf := hC.2.2.2.1.2
  have hkp : kp.length ≤ 12 := hwf.2.2.1
  have hdl : df.length = Xd.2 := by rw [← hC.2.2.2.1.2, rl_len]
  have hdg : ∀ j, j < df.length → Xd.1 j = lf df j := fun j hj => by rw [← hdf, lf, rl_getD (by omega)]
  refine lv_iload_n hx hb dX2_change_0 rfl (lv_at hl 1 rfl) ?_
  refine wd_callSi (As := [.int t]) (rest := []) (c2 := 0) (s2 := 0) ⟨hx, hb, hml, hown, hts⟩ (k_X2_isNoText l D cI cT w sg.heap.size t ) (va_cwS 1 hts gX2_change_X2_isNoText rfl rfl rfl (by decide +kernel) ⟨Nat.le_of_ble_eq_true rfl, Nat.le_of_ble_eq_true rfl⟩) gK_ok hK hW hS hA rfl hl.1 rfl (Nat.le_of_ble_eq_true rfl) dX2_change_1 ⟨Nat.le_of_ble_eq_true rfl, Nat.le_of_ble_eq_true rfl⟩ rfl rfl (fun r_1 w_1 H locs hp_1 hW hz hS => ?_)
  obtain ⟨q_r, q_w⟩ := hp_1
  subst r_1
  subst w_1
  refine lv_if_ne (tgt := 21) hx hb dX2_change_4 (by decide) (fun c_4 => ?_) (fun c_4 => ?_)
  ·
    have c_4 := j_bn c_4
    refine lv_ldc (v := (-2000000001)) hx hb hown (hts (.constant RX2 47 (-2000000001)) (by decide +kernel)) dX2_change_21 ?_
    refine W.widen (k := 2) (n := 242) (by omega) (by omega) ?_
    refine wd_iret hx hb hr hlocks hW hS dX2_change_23 ?_
    have e9 : s_change (cd, pl, df, tx, kp, rs) t u way = ((-2000000001), cd, pl, df, tx, kp, rs) := by simp only [s_change, if_pos (Or.inl c_4), s_w1, s_no, s_mk]
    show _ = (s_change (cd, pl, df, tx, kp, rs) t u way).1 ∧ InvC cI cT o (s_change (cd, pl, df, tx, kp, rs) t u way).2 _
    rw [e9]
    exact ⟨rfl, tA, kA, dr, drI, wk, wkI, sw, swI, aT, aI, Xd, hC⟩
  ·
    have c_4 := j_b0 c_4
    obtain ⟨tN, htN, htE⟩ := nt_spec c_4
    subst htE
    have hcl_t : (nI tN).toNatClampNeg = tN := nI_clamp (by omega)
    refine lv_iload_n hx hb dX2_change_7 rfl (lv_at hl 2 rfl) ?_
    refine wd_callSi (As := [.int u]) (rest := []) (c2 := 0) (s2 := 0) ⟨hx, hb, hml, hown, hts⟩ (k_X2_isNoText l D cI cT w H.size u ) (va_cwS 1 hts gX2_change_X2_isNoText rfl rfl rfl (by decide +kernel) ⟨Nat.le_of_ble_eq_true rfl, Nat.le_of_ble_eq_true rfl⟩) gK_ok hK hW hS hA rfl hl.1 rfl (Nat.le_of_ble_eq_true rfl) dX2_change_8 ⟨Nat.le_of_ble_eq_true rfl, Nat.le_of_ble_eq_true rfl⟩ rfl rfl (fun r_8 w_8 H locs hp_8 hW hz hS => ?_)
    obtain ⟨q_r, q_w⟩ := hp_8
    subst r_8
    subst w_8
    refine lv_if_ne (tgt := 21) hx hb dX2_change_11 (by decide) (fun c_11 => ?_) (fun c_11 => ?_)
    ·
      have c_11 := j_bn c_11
      refine lv_ldc (v := (-2000000001)) hx hb hown (hts (.constant RX2 47 (-2000000001)) (by decide +kernel)) dX2_change_21 ?_
      refine W.widen (k := 2) (n := 242) (by omega) (by omega) ?_
      refine wd_iret hx hb hr hlocks hW hS dX2_change_23 ?_
      have e9 : s_change (cd, pl, df, tx, kp, rs) (nI tN) u way = ((-2000000001), cd, pl, df, tx, kp, rs) := by simp only [s_change, if_pos (Or.inr (Or.inl c_11)), s_w1, s_no, s_mk, hcl_t]
      show _ = (s_change (cd, pl, df, tx, kp, rs) (nI tN) u way).1 ∧ InvC cI cT o (s_change (cd, pl, df, tx, kp, rs) (nI tN) u way).2 _
      rw [e9]
      exact ⟨rfl, tA, kA, dr, drI, wk, wkI, sw, swI, aT, aI, Xd, hC⟩
    ·
      have c_11 := j_b0 c_11
      obtain ⟨uN, huN, huE⟩ := nt_spec c_11
      subst huE
      have hcl_u : (nI uN).toNatClampNeg = uN := nI_clamp (by omega)
      refine lv_iload_n hx hb dX2_change_14 rfl (lv_at hl 3 rfl) ?_
      refine wd_callSi (As := [.int way]) (rest := []) (c2 := 0) (s2 := 0) ⟨hx, hb, hml, hown, hts⟩ (k_X2_isNoWay l D cI cT w H.size way ) (va_cwS 1 hts gX2_change_X2_isNoWay rfl rfl rfl (by decide +kernel) ⟨Nat.le_of_ble_eq_true rfl, Nat.le_of_ble_eq_true rfl⟩) gK_ok hK hW hS hA rfl hl.1 rfl (Nat.le_of_ble_eq_true rfl) dX2_change_15 ⟨Nat.le_of_ble_eq_true rfl, Nat.le_of_ble_eq_true rfl⟩ rfl rfl (fun r_15 w_15 H locs hp_15 hW hz hS => ?_)
      obtain ⟨q_r, q_w⟩ := hp_15
      subst r_15
      subst w_15
      refine lv_if_eq (tgt := 24) hx hb dX2_change_18 (by decide) (fun c_18 => ?_) (fun c_18 => ?_)
      ·
        have c_18 := j_b0 c_18
        refine lv_aload_n hx hb dX2_change_24 rfl (lv_at hl 0 rfl) ?_
        refine wd_get (ci := 2) (v := .ref tA) (C := RX2) (T := TX2) (N := 8) hx hb hts (by decide +kernel) hown hK.1 hW hC.1 rfl 0 (by decide) (hts (.fieldLink RX2 11 "CharRows" "texts" "[LCharRows$Text;") (by decide +kernel)) (fun _ h9 => h9) rfl dX2_change_25 ?_
        refine lv_iload_n hx hb dX2_change_28 rfl (lv_at hl 2 rfl) ?_
        refine wd_aldq hx hb hK.1 hW 1 hC.2.1 rfl (vp_in_nI (by omega) (by omega)) dX2_change_29 ?_
        rw [nI_clamp (by omega)]
        cases htx_29 : tx uN with
        | none =>
          refine wd_topR (y := .null) (by simp [htx_29, va_rf]) ?_
          refine lv_astoreN (lv' := [(4, .null), (0, .ref o), (1, .int (nI tN)), (2, .int (nI uN)), (3, .int way)]) hx hb dX2_change_30 hl (by decide) rfl (fun ls hl => ?_)
          refine lv_aloadN hx hb dX2_change_32 (lv_at hl 0 rfl) ?_
          refine lv_ifnonnullN hx hb dX2_change_34 ?_
          refine lv_aload_n hx hb dX2_change_37 rfl (lv_at hl 1 rfl) ?_
          refine lv_iconst (v := 1) hx hb dX2_change_38 (by decide) ?_
          refine wd_callVi (As := [.int 1]) (rest := []) (c2 := 0) (s2 := 0) ⟨hx, hb, hml, hown, hts⟩ (k_X2_refuse l D cI cT w H.size o tA kA (nI kp.length) dr wk sw cd pl 1 hC.1) (cwV 1 hts gX2_change_X2_refuse rfl rfl rfl (by decide +kernel) ⟨Nat.le_of_ble_eq_true rfl, Nat.le_of_ble_eq_true rfl⟩) gK_ok hK hW (wd_recv (ci := 2) hK.1 hW rfl hC.1) hS hA rfl hl.1 rfl (Nat.le_of_ble_eq_true rfl) dX2_change_39 ⟨Nat.le_of_ble_eq_true rfl, Nat.le_of_ble_eq_true rfl⟩ rfl rfl (fun r_39 w_39 H locs hp_39 hW hz hS => ?_)
          obtain ⟨q_r, q_w⟩ := hp_39
          subst r_39
          subst w_39
          have hC := hC.obj 1 pl
          refine W.widen (k := 2) (n := 242) (by omega) (by omega) ?_
          refine wd_iret hx hb hr hlocks hW hS dX2_change_42 ?_
          have e9 : s_change (cd, pl, df, tx, kp, rs) (nI tN) (nI uN) way = (0, 1, pl, df, tx, kp, rs) := by simp only [s_change, if_neg (not_or.mpr ⟨c_4, (not_or.mpr ⟨c_11, c_18⟩)⟩), s_w1, s_no, s_mk, hcl_t, hcl_u, htx_29]
          show _ = (s_change (cd, pl, df, tx, kp, rs) (nI tN) (nI uN) way).1 ∧ InvC cI cT o (s_change (cd, pl, df, tx, kp, rs) (nI tN) (nI uN) way).2 _
          rw [e9]
          exact ⟨rfl, tA, kA, dr, drI, wk, wkI, sw, swI, aT, aI, Xd, hC⟩
        | some r_29 =>
          refine wd_topR (y := .ref (aT r_29)) (by simp [htx_29, va_rf]) ?_
          have hl_29 : live tx kp r_29 := Or.inl ⟨_, htx_29⟩
          have hok_29 : rOK (rs r_29) := (hwf.2.2.2.1 r_29 hl_29).2
          have hlen_29 := hok_29.len
          refine lv_astore (lv' := [(4, .ref (aT r_29)), (0, .ref o), (1, .int (nI tN)), (2, .int (nI uN)), (3, .int way)]) hx hb dX2_change_30 hl (by decide) rfl (fun ls hl => ?_)
          refine lv_aload hx hb dX2_change_32 (lv_at hl 0 rfl) ?_
          refine lv_ifnonnull (tgt := 43) hx hb dX2_change_34 (by decide) ?_
          refine lv_aload hx hb dX2_change_43 (lv_at hl 0 rfl) ?_
          refine wd_get (ci := 1) (v := .int ((rs r_29).1)) (C := RX1) (T := TX1) (N := 2) hx hb hts (by decide +kernel) hown hK.1 hW (hC.2.2.2.2.2.2.2.1 r_29 hl_29).1 rfl 0 (by decide) (hts (.fieldLink RX2 94 "CharRows$Text" "kindOfItems" "I") (by decide +kernel)) (fun _ h9 => h9) rfl dX2_change_45 ?_
          refine lv_iconst (v := 2) hx hb dX2_change_48 (by decide) ?_
          refine lv_icmp_ne (tgt := 58) hx hb dX2_change_49 (by decide) (fun c_49 => ?_) (fun c_49 => ?_)
          ·
            refine lv_aload_n hx hb dX2_change_58 rfl (lv_at hl 1 rfl) ?_
            refine wd_get (ci := 2) (v := .ref wk) (C := RX2) (T := TX2) (N := 8) hx hb hts (by decide +kernel) hown hK.1 hW hC.1 rfl 4 (by decide) (hts (.fieldLink RX2 31 "CharRows" "work" "LCharRows$Row;") (by decide +kernel)) (fun _ h9 => h9) rfl dX2_change_59 ?_
            refine wd_callVv (As := []) (rest := []) (c2 := 0) (s2 := 0) ⟨hx, hb, hml, hown, hts⟩ (k_X0_empty l D cI cT w H.size wk wkI 240 Xw hXw) (cwV 0 hts gX2_change_X0_empty rfl rfl rfl (by decide +kernel) ⟨Nat.le_of_ble_eq_true rfl, Nat.le_of_ble_eq_true rfl⟩) gK_ok hK hW (wd_recv (ci := 0) hK.1 hW rfl hXw.1) hS hA rfl hl.1 rfl (Nat.le_of_ble_eq_true rfl) dX2_change_62 ⟨Nat.le_of_ble_eq_true rfl, Nat.le_of_ble_eq_true rfl⟩ rfl rfl (fun w_62 H locs hp_62 hW hz hS => ?_)
            subst w_62
            have hXs := hC.kWS (Y := r_nil Xw) hXs
            have hXw : rowAt (rowSet w wk wkI cI 240 (r_nil Xw)) wk wkI cI 240 (r_nil Xw) := rowSet_at hXw.ne (Nat.zero_le _) (by omega)
            have hC := hC.work (r_nil Xw) hXw.2.2.1
            have hXc_62 := hXw.2.2.1
            refine lv_iconst (v := 0) hx hb dX2_change_65 (by decide) ?_
            refine lv_istore (lv' := [(5, .int 0), (4, .ref (aT r_29)), (0, .ref o), (1, .int (nI tN)), (2, .int (nI uN)), (3, .int way)]) hx hb dX2_change_66 hl (by decide) rfl (fun ls hl => ?_)
            refine wd_loop1 (fun (j : Nat) (H : Heap) (locs : List Loc) (ls : Array Slot) => (j ≤ (rs r_29).2.length) ∧ wd_P D vwCl (wd_A w sg.heap.size) (rowSet (rowSet w wk wkI cI 240 (r_nil Xw)) wk wkI cI 240 (itN (fun j X => r_add 240 (if way = 0 then j_gr (lf (rs r_29).2 j) else j_le (lf (rs r_29).2 j)) X) j (r_nil Xw))) H ∧ va_S (wd_A w sg.heap.size) sg.heap H locs ∧ lv_has ls 6 [(0, .ref o), (1, .int (nI tN)), (2, .int (nI uN)), (3, .int way), (4, .ref (aT r_29)), (5, .int (nI j))]) (fun (j : Nat) => (rs r_29).2.length - j) 0 ⟨(Nat.zero_le _), (by rw [show itN (fun j X => r_add 240 (if way = 0 then j_gr (lf (rs r_29).2 j) else j_le (lf (rs r_29).2 j)) X) 0 (r_nil Xw) = r_nil Xw from rfl, rowSet_self hXw]; exact hW), hS, (lv_sub hl [2, 3, 4, 5, 1, 0] rfl)⟩ (fun j H locs ls hI ih => ?_)
            obtain ⟨hj, hW, hS, hl⟩ := hI
            have hXs := hC.kWS (Y := itN (fun j X => r_add 240 (if way = 0 then j_gr (lf (rs r_29).2 j) else j_le (lf (rs r_29).2 j)) X) j (r_nil Xw)) hXs
            have hXw : rowAt (rowSet (rowSet w wk wkI cI 240 (r_nil Xw)) wk wkI cI 240 (itN (fun j X => r_add 240 (if way = 0 then j_gr (lf (rs r_29).2 j) else j_le (lf (rs r_29).2 j)) X) j (r_nil Xw))) wk wkI cI 240 (itN (fun j X => r_add 240 (if way = 0 then j_gr (lf (rs r_29).2 j) else j_le (lf (rs r_29).2 j)) X) j (r_nil Xw)) := rowSet_at hXw.ne (itN_le (fun _ _ h => r_add_le h) _ _ (Nat.zero_le _)) (by omega)
            have hC := hC.work (itN (fun j X => r_add 240 (if way = 0 then j_gr (lf (rs r_29).2 j) else j_le (lf (rs r_29).2 j)) X) j (r_nil Xw)) hXw.2.2.1
            have hXc_66 := hXw.2.2.1
            refine lv_iload hx hb dX2_change_68 (lv_at hl 5 rfl) ?_
            refine lv_aload hx hb dX2_change_70 (lv_at hl 4 rfl) ?_
            refine wd_get (ci := 1) (v := .ref (aI r_29)) (C := RX1) (T := TX1) (N := 2) hx hb hts (by decide +kernel) hown hK.1 hW (hC.2.2.2.2.2.2.2.1 r_29 hl_29).1 rfl 1 (by decide) (hts (.fieldLink RX2 93 "CharRows$Text" "items" "[I") (by decide +kernel)) (fun _ h9 => h9) rfl dX2_change_72 ?_
            refine wd_alen hx hb hK.1 hW 0 (hC.2.2.2.2.2.2.2.1 r_29 hl_29).2.1 rfl dX2_change_75 ?_
            refine lv_icmp_ge (tgt := 121) hx hb dX2_change_76 (by decide) (fun c_76 => ?_) (fun c_76 => ?_)
            ·
              have c_76 : (rs r_29).2.length ≤ j := (nI_leI (by omega) (by omega)).mp (show (nI ((rs r_29).2.length) ≤ nI j) from c_76)
              refine lv_aload_n hx hb dX2_change_121 rfl (lv_at hl 0 rfl) ?_
              refine lv_iload_n hx hb dX2_change_122 rfl (lv_at hl 1 rfl) ?_
              refine lv_aload hx hb dX2_change_123 (lv_at hl 4 rfl) ?_
              refine wd_get (ci := 1) (v := .int ((rs r_29).1)) (C := RX1) (T := TX1) (N := 2) hx hb hts (by decide +kernel) hown hK.1 hW (hC.2.2.2.2.2.2.2.1 r_29 hl_29).1 rfl 0 (by decide) (hts (.fieldLink RX2 94 "CharRows$Text" "kindOfItems" "I") (by decide +kernel)) (fun _ h9 => h9) rfl dX2_change_125 ?_
              refine lv_aload_n hx hb dX2_change_128 rfl (lv_at hl 0 rfl) ?_
              refine wd_get (ci := 2) (v := .ref wk) (C := RX2) (T := TX2) (N := 8) hx hb hts (by decide +kernel) hown hK.1 hW hC.1 rfl 4 (by decide) (hts (.fieldLink RX2 31 "CharRows" "work" "LCharRows$Row;") (by decide +kernel)) (fun _ h9 => h9) rfl dX2_change_129 ?_
              refine wd_callVi (As := [.int (nI tN), .int ((rs r_29).1), .ref wk]) (rest := []) (c2 := 2) (s2 := 242) ⟨hx, hb, hml, hown, hts⟩ (k_X2_setText l D cI cT (rowSet (rowSet w wk wkI cI 240 (r_nil Xw)) wk wkI cI 240 (itN (fun j X => r_add 240 (if way = 0 then j_gr (lf (rs r_29).2 j) else j_le (lf (rs r_29).2 j)) X) j (r_nil Xw))) H.size o tA kA (nI kp.length) dr wk sw cd pl (fun t => (tx t).map aT) tN ((rs r_29).1) wk wkI 240 (itN (fun j X => r_add 240 (if way = 0 then j_gr (lf (rs r_29).2 j) else j_le (lf (rs r_29).2 j)) X) j (r_nil Xw)) hC.1 hC.2.1 (by omega) hXw) (cwV 3 hts gX2_change_X2_setText rfl rfl rfl (by decide +kernel) ⟨Nat.le_of_ble_eq_true rfl, Nat.le_of_ble_eq_true rfl⟩) gK_ok hK hW (wd_recv (ci := 2) hK.1 hW rfl hC.1) hS hA rfl hl.1 rfl (Nat.le_of_ble_eq_true rfl) dX2_change_132 ⟨Nat.le_of_ble_eq_true rfl, Nat.le_of_ble_eq_true rfl⟩ rfl rfl (fun r_132 w_132 H locs hp_132 hW hz hS => ?_)
              obtain ⟨q_r, q_e⟩ := hp_132
              subst r_132
              obtain ⟨w_s, aT', aI', hW, hC⟩ := c_setText hC (u_free_spec hwf.2.1 hwf.2.2.1).1 q_e hW
              refine wd_iret hx hb hr hlocks hW hS dX2_change_135 ?_
              have e9 : s_change (cd, pl, df, tx, kp, rs) (nI tN) (nI uN) way = (nI ((itN (fun j X => r_add 240 (if way = 0 then j_gr (lf (rs r_29).2 j) else j_le (lf (rs r_29).2 j)) X) j (r_nil Xw)).2), 0, pl, df, (va_up tx tN (some (u_free tx kp))), kp, (va_up rs (u_free tx kp) ((rs r_29).1, rl (itN (fun j X => r_add 240 (if way = 0 then j_gr (lf (rs r_29).2 j) else j_le (lf (rs r_29).2 j)) X) j (r_nil Xw))))) := by simp only [s_change, if_neg (not_or.mpr ⟨c_4, (not_or.mpr ⟨c_11, c_18⟩)⟩), s_w1, s_no, s_mk, if_neg c_49, hcl_t, hcl_u, htx_29]; rw [show (rs r_29).2.map (fun x => if way = 0 then j_gr x else j_le x) = rl (itN (fun j X => r_add 240 (if way = 0 then j_gr (lf (rs r_29).2 j) else j_le (lf (rs r_29).2 j)) X) j (r_nil Xw)) from by rw [show j = (rs r_29).2.length by omega]; exact (rl_map (f := fun x => if way = 0 then j_gr x else j_le x) (by omega)).symm, rl_len]
              show _ = (s_change (cd, pl, df, tx, kp, rs) (nI tN) (nI uN) way).1 ∧ InvC cI cT o (s_change (cd, pl, df, tx, kp, rs) (nI tN) (nI uN) way).2 _
              rw [e9]
              exact ⟨rfl, tA, kA, dr, drI, wk, wkI, sw, swI, aT', aI', Xd, hC⟩
            ·
              have c_76 : ¬ ((rs r_29).2.length ≤ j) := fun q9 => absurd ((nI_leI (by omega) (by omega)).mpr q9) (show ¬ (nI ((rs r_29).2.length) ≤ nI j) from c_76)
              refine lv_aload_n hx hb dX2_change_79 rfl (lv_at hl 0 rfl) ?_
              refine wd_get (ci := 2) (v := .ref wk) (C := RX2) (T := TX2) (N := 8) hx hb hts (by decide +kernel) hown hK.1 hW hC.1 rfl 4 (by decide) (hts (.fieldLink RX2 31 "CharRows" "work" "LCharRows$Row;") (by decide +kernel)) (fun _ h9 => h9) rfl dX2_change_80 ?_
              refine lv_iload_n hx hb dX2_change_83 rfl (lv_at hl 3 rfl) ?_
              refine lv_if_ne (tgt := 101) hx hb dX2_change_84 (by decide) (fun c_84 => ?_) (fun c_84 => ?_)
              ·
                refine lv_aload hx hb dX2_change_101 (lv_at hl 4 rfl) ?_
                refine wd_get (ci := 1) (v := .ref (aI r_29)) (C := RX1) (T := TX1) (N := 2) hx hb hts (by decide +kernel) hown hK.1 hW (hC.2.2.2.2.2.2.2.1 r_29 hl_29).1 rfl 1 (by decide) (hts (.fieldLink RX2 93 "CharRows$Text" "items" "[I") (by decide +kernel)) (fun _ h9 => h9) rfl dX2_change_103 ?_
                refine lv_iload hx hb dX2_change_106 (lv_at hl 5 rfl) ?_
                refine wd_iald hx hb hK.1 hW 0 (hC.2.2.2.2.2.2.2.1 r_29 hl_29).2.1 rfl (vp_in_nI (by omega) (by omega)) dX2_change_108 ?_
                refine wd_topE (y := (lf (rs r_29).2) j) (by rw [nI_clamp (by omega)]) ?_
                refine wd_callSi (As := [.int ((lf (rs r_29).2) j)]) (rest := [.ref wk]) (c2 := 0) (s2 := 0) ⟨hx, hb, hml, hown, hts⟩ (k_X2_lesser l D cI cT (rowSet (rowSet w wk wkI cI 240 (r_nil Xw)) wk wkI cI 240 (itN (fun j X => r_add 240 (if way = 0 then j_gr (lf (rs r_29).2 j) else j_le (lf (rs r_29).2 j)) X) j (r_nil Xw))) H.size ((lf (rs r_29).2) j) ) (va_cwS 1 hts gX2_change_X2_lesser rfl rfl rfl (by decide +kernel) ⟨Nat.le_of_ble_eq_true rfl, Nat.le_of_ble_eq_true rfl⟩) gK_ok hK hW hS hA rfl hl.1 rfl (Nat.le_of_ble_eq_true rfl) dX2_change_109 ⟨Nat.le_of_ble_eq_true rfl, Nat.le_of_ble_eq_true rfl⟩ rfl rfl (fun r_109 w_109 H locs hp_109 hW hz hS => ?_)
                obtain ⟨q_r, q_w⟩ := hp_109
                subst r_109
                subst w_109
                refine wd_callVv (As := [.int (j_le ((lf (rs r_29).2) j))]) (rest := []) (c2 := 0) (s2 := 0) ⟨hx, hb, hml, hown, hts⟩ (k_X0_add l D cI cT (rowSet (rowSet w wk wkI cI 240 (r_nil Xw)) wk wkI cI 240 (itN (fun j X => r_add 240 (if way = 0 then j_gr (lf (rs r_29).2 j) else j_le (lf (rs r_29).2 j)) X) j (r_nil Xw))) H.size wk wkI 240 (itN (fun j X => r_add 240 (if way = 0 then j_gr (lf (rs r_29).2 j) else j_le (lf (rs r_29).2 j)) X) j (r_nil Xw)) (j_le ((lf (rs r_29).2) j)) hXw) (cwV 1 hts gX2_change_X0_add rfl rfl rfl (by decide +kernel) ⟨Nat.le_of_ble_eq_true rfl, Nat.le_of_ble_eq_true rfl⟩) gK_ok hK hW (wd_recv (ci := 0) hK.1 hW rfl hXw.1) hS hA rfl hl.1 rfl (Nat.le_of_ble_eq_true rfl) dX2_change_112 ⟨Nat.le_of_ble_eq_true rfl, Nat.le_of_ble_eq_true rfl⟩ rfl rfl (fun w_112 H locs hp_112 hW hz hS => ?_)
                subst w_112
                have hXs := hC.kWS (Y := r_add 240 (j_le ((lf (rs r_29).2) j)) (itN (fun j X => r_add 240 (if way = 0 then j_gr (lf (rs r_29).2 j) else j_le (lf (rs r_29).2 j)) X) j (r_nil Xw))) hXs
                have hXw : rowAt (rowSet (rowSet (rowSet w wk wkI cI 240 (r_nil Xw)) wk wkI cI 240 (itN (fun j X => r_add 240 (if way = 0 then j_gr (lf (rs r_29).2 j) else j_le (lf (rs r_29).2 j)) X) j (r_nil Xw))) wk wkI cI 240 (r_add 240 (j_le ((lf (rs r_29).2) j)) (itN (fun j X => r_add 240 (if way = 0 then j_gr (lf (rs r_29).2 j) else j_le (lf (rs r_29).2 j)) X) j (r_nil Xw)))) wk wkI cI 240 (r_add 240 (j_le ((lf (rs r_29).2) j)) (itN (fun j X => r_add 240 (if way = 0 then j_gr (lf (rs r_29).2 j) else j_le (lf (rs r_29).2 j)) X) j (r_nil Xw))) := rowSet_at hXw.ne (r_add_le hXw.2.2.1) (by omega)
                have hC := hC.work (r_add 240 (j_le ((lf (rs r_29).2) j)) (itN (fun j X => r_add 240 (if way = 0 then j_gr (lf (rs r_29).2 j) else j_le (lf (rs r_29).2 j)) X) j (r_nil Xw))) hXw.2.2.1
                have hXc_112 := hXw.2.2.1
                refine lv_iinc (v := nI (j + 1)) (lv' := [(5, .int (nI (j + 1))), (0, .ref o), (1, .int (nI tN)), (2, .int (nI uN)), (3, .int way), (4, .ref (aT r_29))]) hx hb dX2_change_115 hl (k := 5) rfl (nI_add j 1) (by decide) rfl (fun ls hl => ?_)
                refine lv_goto (tgt := 68) hx hb dX2_change_118 (by decide) ?_
                rw [rowSet_twice] at hW
                exact ih (j + 1) H locs ls ⟨(by omega), (by rw [show itN (fun j X => r_add 240 (if way = 0 then j_gr (lf (rs r_29).2 j) else j_le (lf (rs r_29).2 j)) X) (j + 1) (r_nil Xw) = r_add 240 (j_le ((lf (rs r_29).2) j)) (itN (fun j X => r_add 240 (if way = 0 then j_gr (lf (rs r_29).2 j) else j_le (lf (rs r_29).2 j)) X) j (r_nil Xw)) from by (show r_add 240 (if way = 0 then _ else _) _ = _; rw [if_neg c_84])]; exact hW), hS, (lv_sub hl [1, 2, 3, 4, 5, 0] rfl)⟩ (by omega)
              ·
                refine lv_aload hx hb dX2_change_87 (lv_at hl 4 rfl) ?_
                refine wd_get (ci := 1) (v := .ref (aI r_29)) (C := RX1) (T := TX1) (N := 2) hx hb hts (by decide +kernel) hown hK.1 hW (hC.2.2.2.2.2.2.2.1 r_29 hl_29).1 rfl 1 (by decide) (hts (.fieldLink RX2 93 "CharRows$Text" "items" "[I") (by decide +kernel)) (fun _ h9 => h9) rfl dX2_change_89 ?_
                refine lv_iload hx hb dX2_change_92 (lv_at hl 5 rfl) ?_
                refine wd_iald hx hb hK.1 hW 0 (hC.2.2.2.2.2.2.2.1 r_29 hl_29).2.1 rfl (vp_in_nI (by omega) (by omega)) dX2_change_94 ?_
                refine wd_topE (y := (lf (rs r_29).2) j) (by rw [nI_clamp (by omega)]) ?_
                refine wd_callSi (As := [.int ((lf (rs r_29).2) j)]) (rest := [.ref wk]) (c2 := 0) (s2 := 0) ⟨hx, hb, hml, hown, hts⟩ (k_X2_greater l D cI cT (rowSet (rowSet w wk wkI cI 240 (r_nil Xw)) wk wkI cI 240 (itN (fun j X => r_add 240 (if way = 0 then j_gr (lf (rs r_29).2 j) else j_le (lf (rs r_29).2 j)) X) j (r_nil Xw))) H.size ((lf (rs r_29).2) j) ) (va_cwS 1 hts gX2_change_X2_greater rfl rfl rfl (by decide +kernel) ⟨Nat.le_of_ble_eq_true rfl, Nat.le_of_ble_eq_true rfl⟩) gK_ok hK hW hS hA rfl hl.1 rfl (Nat.le_of_ble_eq_true rfl) dX2_change_95 ⟨Nat.le_of_ble_eq_true rfl, Nat.le_of_ble_eq_true rfl⟩ rfl rfl (fun r_95 w_95 H locs hp_95 hW hz hS => ?_)
                obtain ⟨q_r, q_w⟩ := hp_95
                subst r_95
                subst w_95
                refine lv_goto (tgt := 112) hx hb dX2_change_98 (by decide) ?_
                refine wd_callVv (As := [.int (j_gr ((lf (rs r_29).2) j))]) (rest := []) (c2 := 0) (s2 := 0) ⟨hx, hb, hml, hown, hts⟩ (k_X0_add l D cI cT (rowSet (rowSet w wk wkI cI 240 (r_nil Xw)) wk wkI cI 240 (itN (fun j X => r_add 240 (if way = 0 then j_gr (lf (rs r_29).2 j) else j_le (lf (rs r_29).2 j)) X) j (r_nil Xw))) H.size wk wkI 240 (itN (fun j X => r_add 240 (if way = 0 then j_gr (lf (rs r_29).2 j) else j_le (lf (rs r_29).2 j)) X) j (r_nil Xw)) (j_gr ((lf (rs r_29).2) j)) hXw) (cwV 1 hts gX2_change_X0_add rfl rfl rfl (by decide +kernel) ⟨Nat.le_of_ble_eq_true rfl, Nat.le_of_ble_eq_true rfl⟩) gK_ok hK hW (wd_recv (ci := 0) hK.1 hW rfl hXw.1) hS hA rfl hl.1 rfl (Nat.le_of_ble_eq_true rfl) dX2_change_112 ⟨Nat.le_of_ble_eq_true rfl, Nat.le_of_ble_eq_true rfl⟩ rfl rfl (fun w_112 H locs hp_112 hW hz hS => ?_)
                subst w_112
                have hXs := hC.kWS (Y := r_add 240 (j_gr ((lf (rs r_29).2) j)) (itN (fun j X => r_add 240 (if way = 0 then j_gr (lf (rs r_29).2 j) else j_le (lf (rs r_29).2 j)) X) j (r_nil Xw))) hXs
                have hXw : rowAt (rowSet (rowSet (rowSet w wk wkI cI 240 (r_nil Xw)) wk wkI cI 240 (itN (fun j X => r_add 240 (if way = 0 then j_gr (lf (rs r_29).2 j) else j_le (lf (rs r_29).2 j)) X) j (r_nil Xw))) wk wkI cI 240 (r_add 240 (j_gr ((lf (rs r_29).2) j)) (itN (fun j X => r_add 240 (if way = 0 then j_gr (lf (rs r_29).2 j) else j_le (lf (rs r_29).2 j)) X) j (r_nil Xw)))) wk wkI cI 240 (r_add 240 (j_gr ((lf (rs r_29).2) j)) (itN (fun j X => r_add 240 (if way = 0 then j_gr (lf (rs r_29).2 j) else j_le (lf (rs r_29).2 j)) X) j (r_nil Xw))) := rowSet_at hXw.ne (r_add_le hXw.2.2.1) (by omega)
                have hC := hC.work (r_add 240 (j_gr ((lf (rs r_29).2) j)) (itN (fun j X => r_add 240 (if way = 0 then j_gr (lf (rs r_29).2 j) else j_le (lf (rs r_29).2 j)) X) j (r_nil Xw))) hXw.2.2.1
                have hXc_112 := hXw.2.2.1
                refine lv_iinc (v := nI (j + 1)) (lv' := [(5, .int (nI (j + 1))), (0, .ref o), (1, .int (nI tN)), (2, .int (nI uN)), (3, .int way), (4, .ref (aT r_29))]) hx hb dX2_change_115 hl (k := 5) rfl (nI_add j 1) (by decide) rfl (fun ls hl => ?_)
                refine lv_goto (tgt := 68) hx hb dX2_change_118 (by decide) ?_
                rw [rowSet_twice] at hW
                exact ih (j + 1) H locs ls ⟨(by omega), (by rw [show itN (fun j X => r_add 240 (if way = 0 then j_gr (lf (rs r_29).2 j) else j_le (lf (rs r_29).2 j)) X) (j + 1) (r_nil Xw) = r_add 240 (j_gr ((lf (rs r_29).2) j)) (itN (fun j X => r_add 240 (if way = 0 then j_gr (lf (rs r_29).2 j) else j_le (lf (rs r_29).2 j)) X) j (r_nil Xw)) from by (show r_add 240 (if way = 0 then _ else _) _ = _; rw [if_pos c_84])]; exact hW), hS, (lv_sub hl [1, 2, 3, 4, 5, 0] rfl)⟩ (by omega)
          ·
            refine lv_aload_n hx hb dX2_change_52 rfl (lv_at hl 1 rfl) ?_
            refine lv_iconst (v := 2) hx hb dX2_change_53 (by decide) ?_
            refine wd_callVi (As := [.int 2]) (rest := []) (c2 := 0) (s2 := 0) ⟨hx, hb, hml, hown, hts⟩ (k_X2_refuse l D cI cT w H.size o tA kA (nI kp.length) dr wk sw cd pl 2 hC.1) (cwV 1 hts gX2_change_X2_refuse rfl rfl rfl (by decide +kernel) ⟨Nat.le_of_ble_eq_true rfl, Nat.le_of_ble_eq_true rfl⟩) gK_ok hK hW (wd_recv (ci := 2) hK.1 hW rfl hC.1) hS hA rfl hl.1 rfl (Nat.le_of_ble_eq_true rfl) dX2_change_54 ⟨Nat.le_of_ble_eq_true rfl, Nat.le_of_ble_eq_true rfl⟩ rfl rfl (fun r_54 w_54 H locs hp_54 hW hz hS => ?_)
            obtain ⟨q_r, q_w⟩ := hp_54
            subst r_54
            subst w_54
            have hC := hC.obj 2 pl
            refine W.widen (k := 2) (n := 242) (by omega) (by omega) ?_
            refine wd_iret hx hb hr hlocks hW hS dX2_change_57 ?_
            have e9 : s_change (cd, pl, df, tx, kp, rs) (nI tN) (nI uN) way = (0, 2, pl, df, tx, kp, rs) := by simp only [s_change, if_neg (not_or.mpr ⟨c_4, (not_or.mpr ⟨c_11, c_18⟩)⟩), s_w1, s_no, s_mk, if_pos c_49, hcl_t, hcl_u, htx_29]
            show _ = (s_change (cd, pl, df, tx, kp, rs) (nI tN) (nI uN) way).1 ∧ InvC cI cT o (s_change (cd, pl, df, tx, kp, rs) (nI tN) (nI uN) way).2 _
            rw [e9]
            exact ⟨rfl, tA, kA, dr, drI, wk, wkI, sw, swI, aT, aI, Xd, hC⟩
      ·
        have c_18 := j_bn c_18
        refine lv_ldc (v := (-2000000001)) hx hb hown (hts (.constant RX2 47 (-2000000001)) (by decide +kernel)) dX2_change_21 ?_
        refine W.widen (k := 2) (n := 242) (by omega) (by omega) ?_
        refine wd_iret hx hb hr hlocks hW hS dX2_change_23 ?_
        have e9 : s_change (cd, pl, df, tx, kp, rs) (nI tN) (nI uN) way = ((-2000000001), cd, pl, df, tx, kp, rs) := by simp only [s_change, if_pos (Or.inr (Or.inr c_18)), s_w1, s_no, s_mk, hcl_t, hcl_u]
        show _ = (s_change (cd, pl, df, tx, kp, rs) (nI tN) (nI uN) way).1 ∧ InvC cI cT o (s_change (cd, pl, df, tx, kp, rs) (nI tN) (nI uN) way).2 _
        rw [e9]
        exact ⟨rfl, tA, kA, dr, drI, wk, wkI, sw, swI, aT, aI, Xd, hC⟩
set_option maxHeartbeats 4000000 in
set_option maxRecDepth 100000 in
theorem k_X2_cut (l : Launch) (D : va_G) (cI cT : ClassId) (w : Wd) (sz : Nat) (o : Nat) (cd : Int32) (pl : Int32) (df : List Int32) (tx : Nat → Option Nat) (kp : List Nat) (rs : Rws) (t : Int32) (u : Int32) (i : Int32) (n : Int32) (hwf : WF (cd, pl, df, tx, kp, rs)) (hI : InvC cI cT o (cd, pl, df, tx, kp, rs) w) : wd_Mi l D vwCl (gK D cI cT) yX2_cut wsX2_cut (wd_rm 4 2 242) [.ref o, .int t, .int u, .int i, .int n] w sz (fun r w' => r = (s_cut (cd, pl, df, tx, kp, rs) t u i n).1 ∧ InvC cI cT o (s_cut (cd, pl, df, tx, kp, rs) t u i n).2 w') := by
  refine wd_met (cc := cX2_cut) (maxL := 7) (ret := (some .int)) (by decide) rfl (Nat.le_of_ble_eq_true rfl) ?_
  intro pg ev sg mi bl mt cde ls C0 hsz hK hW hl
  obtain ⟨hx, hb, hr, hml, hown, hts, hlocks, hnm⟩ := C0
  subst hsz
  have hown : sg.vm.findClass RX2 = some mi.cls := hown
  have hS : va_S (wd_A w sg.heap.size) sg.heap sg.heap [] := va_S.rf
  have hA : ∀ q, sg.heap.size ≤ q → wd_A w sg.heap.size q := fun q h => Or.inr h
  have hl : lv_has ls 7 [(0, .ref o), (1, .int t), (2, .int u), (3, .int i), (4, .int n)] := hl
  obtain ⟨tA, kA, dr, drI, wk, wkI, sw, swI, aT, aI, Xd, hC⟩ := hI
  dsimp only at hC
  obtain ⟨Xw, hXw⟩ := hC.2.2.2.2.1
  obtain ⟨Xs, hXs⟩ := hC.2.2.2.2.2.1
  have hXd1 := hC.2.2.2.1.1.2.2.1
  have hdf := hC.2.2.2.1.2
  have hkp : kp.length ≤ 12 := hwf.2.2.1
  have hdl : df.length = Xd.2 := by rw [← hC.2.2.2.1.2, rl_len]
  have hdg : ∀ j, j < df.length → Xd.1 j = lf df j := fun j hj => by rw [← hdf, lf, rl_getD (by omega)]
  refine lv_iload_n hx hb dX2_cut_0 rfl (lv_at hl 1 rfl) ?_
  refine wd_callSi (As := [.int t]) (rest := []) (c2 := 0) (s2 := 0) ⟨hx, hb, hml, hown, hts⟩ (k_X2_isNoText l D cI cT w sg.heap.size t ) (va_cwS 1 hts gX2_cut_X2_isNoText rfl rfl rfl (by decide +kernel) ⟨Nat.le_of_ble_eq_true rfl, Nat.le_of_ble_eq_true rfl⟩) gK_ok hK hW hS hA rfl hl.1 rfl (Nat.le_of_ble_eq_true rfl) dX2_cut_1 ⟨Nat.le_of_ble_eq_true rfl, Nat.le_of_ble_eq_true rfl⟩ rfl rfl (fun r_1 w_1 H locs hp_1 hW hz hS => ?_)
  obtain ⟨q_r, q_w⟩ := hp_1
  subst r_1
  subst w_1
  refine lv_if_ne (tgt := 14) hx hb dX2_cut_4 (by decide) (fun c_4 => ?_) (fun c_4 => ?_)
  ·
    have c_4 := j_bn c_4
    refine lv_ldc (v := (-2000000001)) hx hb hown (hts (.constant RX2 47 (-2000000001)) (by decide +kernel)) dX2_cut_14 ?_
    refine W.widen (k := 2) (n := 242) (by omega) (by omega) ?_
    refine wd_iret hx hb hr hlocks hW hS dX2_cut_16 ?_
    have e9 : s_cut (cd, pl, df, tx, kp, rs) t u i n = ((-2000000001), cd, pl, df, tx, kp, rs) := by simp only [s_cut, if_pos (Or.inl c_4), s_w1, s_no, s_mk]
    show _ = (s_cut (cd, pl, df, tx, kp, rs) t u i n).1 ∧ InvC cI cT o (s_cut (cd, pl, df, tx, kp, rs) t u i n).2 _
    rw [e9]
    exact ⟨rfl, tA, kA, dr, drI, wk, wkI, sw, swI, aT, aI, Xd, hC⟩
  ·
    have c_4 := j_b0 c_4
    obtain ⟨tN, htN, htE⟩ := nt_spec c_4
    subst htE
    have hcl_t : (nI tN).toNatClampNeg = tN := nI_clamp (by omega)
    refine lv_iload_n hx hb dX2_cut_7 rfl (lv_at hl 2 rfl) ?_
    refine wd_callSi (As := [.int u]) (rest := []) (c2 := 0) (s2 := 0) ⟨hx, hb, hml, hown, hts⟩ (k_X2_isNoText l D cI cT w H.size u ) (va_cwS 1 hts gX2_cut_X2_isNoText rfl rfl rfl (by decide +kernel) ⟨Nat.le_of_ble_eq_true rfl, Nat.le_of_ble_eq_true rfl⟩) gK_ok hK hW hS hA rfl hl.1 rfl (Nat.le_of_ble_eq_true rfl) dX2_cut_8 ⟨Nat.le_of_ble_eq_true rfl, Nat.le_of_ble_eq_true rfl⟩ rfl rfl (fun r_8 w_8 H locs hp_8 hW hz hS => ?_)
    obtain ⟨q_r, q_w⟩ := hp_8
    subst r_8
    subst w_8
    refine lv_if_eq (tgt := 17) hx hb dX2_cut_11 (by decide) (fun c_11 => ?_) (fun c_11 => ?_)
    ·
      have c_11 := j_b0 c_11
      obtain ⟨uN, huN, huE⟩ := nt_spec c_11
      subst huE
      have hcl_u : (nI uN).toNatClampNeg = uN := nI_clamp (by omega)
      refine lv_aload_n hx hb dX2_cut_17 rfl (lv_at hl 0 rfl) ?_
      refine wd_get (ci := 2) (v := .ref tA) (C := RX2) (T := TX2) (N := 8) hx hb hts (by decide +kernel) hown hK.1 hW hC.1 rfl 0 (by decide) (hts (.fieldLink RX2 11 "CharRows" "texts" "[LCharRows$Text;") (by decide +kernel)) (fun _ h9 => h9) rfl dX2_cut_18 ?_
      refine lv_iload_n hx hb dX2_cut_21 rfl (lv_at hl 2 rfl) ?_
      refine wd_aldq hx hb hK.1 hW 1 hC.2.1 rfl (vp_in_nI (by omega) (by omega)) dX2_cut_22 ?_
      rw [nI_clamp (by omega)]
      cases htx_22 : tx uN with
      | none =>
        refine wd_topR (y := .null) (by simp [htx_22, va_rf]) ?_
        refine lv_astoreN (lv' := [(5, .null), (0, .ref o), (1, .int (nI tN)), (2, .int (nI uN)), (3, .int i), (4, .int n)]) hx hb dX2_cut_23 hl (by decide) rfl (fun ls hl => ?_)
        refine lv_aloadN hx hb dX2_cut_25 (lv_at hl 0 rfl) ?_
        refine lv_ifnonnullN hx hb dX2_cut_27 ?_
        refine lv_aload_n hx hb dX2_cut_30 rfl (lv_at hl 1 rfl) ?_
        refine lv_iconst (v := 1) hx hb dX2_cut_31 (by decide) ?_
        refine wd_callVi (As := [.int 1]) (rest := []) (c2 := 0) (s2 := 0) ⟨hx, hb, hml, hown, hts⟩ (k_X2_refuse l D cI cT w H.size o tA kA (nI kp.length) dr wk sw cd pl 1 hC.1) (cwV 1 hts gX2_cut_X2_refuse rfl rfl rfl (by decide +kernel) ⟨Nat.le_of_ble_eq_true rfl, Nat.le_of_ble_eq_true rfl⟩) gK_ok hK hW (wd_recv (ci := 2) hK.1 hW rfl hC.1) hS hA rfl hl.1 rfl (Nat.le_of_ble_eq_true rfl) dX2_cut_32 ⟨Nat.le_of_ble_eq_true rfl, Nat.le_of_ble_eq_true rfl⟩ rfl rfl (fun r_32 w_32 H locs hp_32 hW hz hS => ?_)
        obtain ⟨q_r, q_w⟩ := hp_32
        subst r_32
        subst w_32
        have hC := hC.obj 1 pl
        refine W.widen (k := 2) (n := 242) (by omega) (by omega) ?_
        refine wd_iret hx hb hr hlocks hW hS dX2_cut_35 ?_
        have e9 : s_cut (cd, pl, df, tx, kp, rs) (nI tN) (nI uN) i n = (0, 1, pl, df, tx, kp, rs) := by simp only [s_cut, if_neg (not_or.mpr ⟨c_4, c_11⟩), s_w1, s_no, s_mk, hcl_t, hcl_u, htx_22]
        show _ = (s_cut (cd, pl, df, tx, kp, rs) (nI tN) (nI uN) i n).1 ∧ InvC cI cT o (s_cut (cd, pl, df, tx, kp, rs) (nI tN) (nI uN) i n).2 _
        rw [e9]
        exact ⟨rfl, tA, kA, dr, drI, wk, wkI, sw, swI, aT, aI, Xd, hC⟩
      | some r_22 =>
        refine wd_topR (y := .ref (aT r_22)) (by simp [htx_22, va_rf]) ?_
        have hl_22 : live tx kp r_22 := Or.inl ⟨_, htx_22⟩
        have hok_22 : rOK (rs r_22) := (hwf.2.2.2.1 r_22 hl_22).2
        have hlen_22 := hok_22.len
        refine lv_astore (lv' := [(5, .ref (aT r_22)), (0, .ref o), (1, .int (nI tN)), (2, .int (nI uN)), (3, .int i), (4, .int n)]) hx hb dX2_cut_23 hl (by decide) rfl (fun ls hl => ?_)
        refine lv_aload hx hb dX2_cut_25 (lv_at hl 0 rfl) ?_
        refine lv_ifnonnull (tgt := 36) hx hb dX2_cut_27 (by decide) ?_
        refine lv_iload hx hb dX2_cut_36 (lv_at hl 5 rfl) ?_
        refine lv_if_ge (tgt := 47) hx hb dX2_cut_38 (by decide) (fun c_38 => ?_) (fun c_38 => ?_)
        ·
          simp only [i_le, Decidable.not_not] at c_38
          obtain ⟨nN, hnN, hnE⟩ := nI_of c_38
          subst hnE
          have hcl_n : (nI nN).toNatClampNeg = nN := nI_clamp (by omega)
          refine lv_aload hx hb dX2_cut_47 (lv_at hl 0 rfl) ?_
          refine lv_iload_n hx hb dX2_cut_49 rfl (lv_at hl 4 rfl) ?_
          refine lv_iload hx hb dX2_cut_50 (lv_at hl 5 rfl) ?_
          refine wd_callSi (As := [.ref (aT r_22), .int i, .int (nI nN)]) (rest := []) (c2 := 0) (s2 := 0) ⟨hx, hb, hml, hown, hts⟩ (k_X2_isBeyond l D cI cT w H.size (aT r_22) (aI r_22) ((rs r_22).1) ((rs r_22).2.length) (lf (rs r_22).2) i (nI nN) (⟨(hC.2.2.2.2.2.2.2.1 r_22 hl_22).1, (hC.2.2.2.2.2.2.2.1 r_22 hl_22).2.1, by omega⟩)) (va_cwS 3 hts gX2_cut_X2_isBeyond rfl rfl rfl (by decide +kernel) ⟨Nat.le_of_ble_eq_true rfl, Nat.le_of_ble_eq_true rfl⟩) gK_ok hK hW hS hA rfl hl.1 rfl (Nat.le_of_ble_eq_true rfl) dX2_cut_52 ⟨Nat.le_of_ble_eq_true rfl, Nat.le_of_ble_eq_true rfl⟩ rfl rfl (fun r_52 w_52 H locs hp_52 hW hz hS => ?_)
          obtain ⟨q_r, q_w⟩ := hp_52
          subst r_52
          subst w_52
          refine lv_if_eq (tgt := 64) hx hb dX2_cut_55 (by decide) (fun c_55 => ?_) (fun c_55 => ?_)
          ·
            have c_55 := j_b0 c_55
            obtain ⟨iN, hiE, hiN⟩ := j_beyond_spec2 (by omega) hnN c_55
            subst hiE
            have hcl_i : (nI iN).toNatClampNeg = iN := nI_clamp (by omega)
            refine lv_iload hx hb dX2_cut_64 (lv_at hl 5 rfl) ?_
            refine lv_if_le (tgt := 97) hx hb dX2_cut_66 (by decide) (fun c_66 => ?_) (fun c_66 => ?_)
            ·
              have c_66 : nN ≤ 0 := (nI_leI (by omega) (by omega)).mp (show (nI nN ≤ nI 0) from c_66)
              refine lv_aload_n hx hb dX2_cut_97 rfl (lv_at hl 1 rfl) ?_
              refine wd_get (ci := 2) (v := .ref wk) (C := RX2) (T := TX2) (N := 8) hx hb hts (by decide +kernel) hown hK.1 hW hC.1 rfl 4 (by decide) (hts (.fieldLink RX2 31 "CharRows" "work" "LCharRows$Row;") (by decide +kernel)) (fun _ h9 => h9) rfl dX2_cut_98 ?_
              refine wd_callVv (As := []) (rest := []) (c2 := 0) (s2 := 0) ⟨hx, hb, hml, hown, hts⟩ (k_X0_empty l D cI cT w H.size wk wkI 240 Xw hXw) (cwV 0 hts gX2_cut_X0_empty rfl rfl rfl (by decide +kernel) ⟨Nat.le_of_ble_eq_true rfl, Nat.le_of_ble_eq_true rfl⟩) gK_ok hK hW (wd_recv (ci := 0) hK.1 hW rfl hXw.1) hS hA rfl hl.1 rfl (Nat.le_of_ble_eq_true rfl) dX2_cut_101 ⟨Nat.le_of_ble_eq_true rfl, Nat.le_of_ble_eq_true rfl⟩ rfl rfl (fun w_101 H locs hp_101 hW hz hS => ?_)
              subst w_101
              have hXs := hC.kWS (Y := r_nil Xw) hXs
              have hXw : rowAt (rowSet w wk wkI cI 240 (r_nil Xw)) wk wkI cI 240 (r_nil Xw) := rowSet_at hXw.ne (Nat.zero_le _) (by omega)
              have hC := hC.work (r_nil Xw) hXw.2.2.1
              have hXc_101 := hXw.2.2.1
              refine lv_iload_n hx hb dX2_cut_104 rfl (lv_at hl 4 rfl) ?_
              refine lv_istore (lv' := [(6, .int (nI iN)), (5, .ref (aT r_22)), (0, .ref o), (1, .int (nI tN)), (2, .int (nI uN)), (3, .int (nI iN)), (4, .int (nI nN))]) hx hb dX2_cut_105 hl (by decide) rfl (fun ls hl => ?_)
              refine wd_loop1 (fun (j : Nat) (H : Heap) (locs : List Loc) (ls : Array Slot) => (j ≤ nN) ∧ wd_P D vwCl (wd_A w sg.heap.size) (rowSet (rowSet w wk wkI cI 240 (r_nil Xw)) wk wkI cI 240 (itN (fun j X => r_add 240 (lf (rs r_22).2 (iN + j)) X) j (r_nil Xw))) H ∧ va_S (wd_A w sg.heap.size) sg.heap H locs ∧ lv_has ls 7 [(0, .ref o), (1, .int (nI tN)), (2, .int (nI uN)), (3, .int (nI iN)), (4, .int (nI nN)), (5, .ref (aT r_22)), (6, .int (nI (iN + j)))]) (fun (j : Nat) => nN - j) 0 ⟨(Nat.zero_le _), (by rw [show itN (fun j X => r_add 240 (lf (rs r_22).2 (iN + j)) X) 0 (r_nil Xw) = r_nil Xw from rfl, rowSet_self hXw]; exact hW), hS, (lv_sub hl [2, 3, 4, 5, 6, 1, 0] rfl)⟩ (fun j H locs ls hI ih => ?_)
              obtain ⟨hj, hW, hS, hl⟩ := hI
              have hXs := hC.kWS (Y := itN (fun j X => r_add 240 (lf (rs r_22).2 (iN + j)) X) j (r_nil Xw)) hXs
              have hXw : rowAt (rowSet (rowSet w wk wkI cI 240 (r_nil Xw)) wk wkI cI 240 (itN (fun j X => r_add 240 (lf (rs r_22).2 (iN + j)) X) j (r_nil Xw))) wk wkI cI 240 (itN (fun j X => r_add 240 (lf (rs r_22).2 (iN + j)) X) j (r_nil Xw)) := rowSet_at hXw.ne (itN_le (fun _ _ h => r_add_le h) _ _ (Nat.zero_le _)) (by omega)
              have hC := hC.work (itN (fun j X => r_add 240 (lf (rs r_22).2 (iN + j)) X) j (r_nil Xw)) hXw.2.2.1
              have hXc_105 := hXw.2.2.1
              refine lv_iload hx hb dX2_cut_107 (lv_at hl 6 rfl) ?_
              refine lv_iload_n hx hb dX2_cut_109 rfl (lv_at hl 3 rfl) ?_
              refine lv_iload hx hb dX2_cut_110 (lv_at hl 4 rfl) ?_
              refine lv_iadd hx hb dX2_cut_112 ?_
              refine wd_topE (y := nI (iN + nN)) (nI_add _ _) ?_
              refine lv_icmp_ge (tgt := 148) hx hb dX2_cut_113 (by decide) (fun c_113 => ?_) (fun c_113 => ?_)
              ·
                have c_113 : iN + nN ≤ iN + j := (nI_leI (by omega) (by omega)).mp (show (nI (iN + nN) ≤ nI (iN + j)) from c_113)
                refine lv_aload_n hx hb dX2_cut_148 rfl (lv_at hl 0 rfl) ?_
                refine lv_iload_n hx hb dX2_cut_149 rfl (lv_at hl 1 rfl) ?_
                refine lv_aload hx hb dX2_cut_150 (lv_at hl 5 rfl) ?_
                refine wd_get (ci := 1) (v := .int ((rs r_22).1)) (C := RX1) (T := TX1) (N := 2) hx hb hts (by decide +kernel) hown hK.1 hW (hC.2.2.2.2.2.2.2.1 r_22 hl_22).1 rfl 0 (by decide) (hts (.fieldLink RX2 94 "CharRows$Text" "kindOfItems" "I") (by decide +kernel)) (fun _ h9 => h9) rfl dX2_cut_152 ?_
                refine lv_aload_n hx hb dX2_cut_155 rfl (lv_at hl 0 rfl) ?_
                refine wd_get (ci := 2) (v := .ref wk) (C := RX2) (T := TX2) (N := 8) hx hb hts (by decide +kernel) hown hK.1 hW hC.1 rfl 4 (by decide) (hts (.fieldLink RX2 31 "CharRows" "work" "LCharRows$Row;") (by decide +kernel)) (fun _ h9 => h9) rfl dX2_cut_156 ?_
                refine wd_callVi (As := [.int (nI tN), .int ((rs r_22).1), .ref wk]) (rest := []) (c2 := 2) (s2 := 242) ⟨hx, hb, hml, hown, hts⟩ (k_X2_setText l D cI cT (rowSet (rowSet w wk wkI cI 240 (r_nil Xw)) wk wkI cI 240 (itN (fun j X => r_add 240 (lf (rs r_22).2 (iN + j)) X) j (r_nil Xw))) H.size o tA kA (nI kp.length) dr wk sw cd pl (fun t => (tx t).map aT) tN ((rs r_22).1) wk wkI 240 (itN (fun j X => r_add 240 (lf (rs r_22).2 (iN + j)) X) j (r_nil Xw)) hC.1 hC.2.1 (by omega) hXw) (cwV 3 hts gX2_cut_X2_setText rfl rfl rfl (by decide +kernel) ⟨Nat.le_of_ble_eq_true rfl, Nat.le_of_ble_eq_true rfl⟩) gK_ok hK hW (wd_recv (ci := 2) hK.1 hW rfl hC.1) hS hA rfl hl.1 rfl (Nat.le_of_ble_eq_true rfl) dX2_cut_159 ⟨Nat.le_of_ble_eq_true rfl, Nat.le_of_ble_eq_true rfl⟩ rfl rfl (fun r_159 w_159 H locs hp_159 hW hz hS => ?_)
                obtain ⟨q_r, q_e⟩ := hp_159
                subst r_159
                obtain ⟨w_s, aT', aI', hW, hC⟩ := c_setText hC (u_free_spec hwf.2.1 hwf.2.2.1).1 q_e hW
                refine wd_iret hx hb hr hlocks hW hS dX2_cut_162 ?_
                have e9 : s_cut (cd, pl, df, tx, kp, rs) (nI tN) (nI uN) (nI iN) (nI nN) = (nI ((itN (fun j X => r_add 240 (lf (rs r_22).2 (iN + j)) X) j (r_nil Xw)).2), 0, pl, df, (va_up tx tN (some (u_free tx kp))), kp, (va_up rs (u_free tx kp) ((rs r_22).1, rl (itN (fun j X => r_add 240 (lf (rs r_22).2 (iN + j)) X) j (r_nil Xw))))) := by simp only [s_cut, if_neg (not_or.mpr ⟨c_4, c_11⟩), s_w1, s_no, s_mk, if_neg c_38, if_neg (bey_no (len := (rs r_22).2.length) (i := iN) (n := nN) (by omega) (by omega) (by omega)), if_neg (show ¬ (0 < nI nN ∧ (rs r_22).1 = 0 ∧ (u_ins (rs r_22).2 iN ∨ u_ins (rs r_22).2 (iN + nN))) from fun q => absurd ((nI_ltI (a := 0) (b := nN) (by omega) (by omega)).mp q.1) (by omega)), hcl_t, hcl_u, hcl_n, hcl_i, htx_22]; rw [show ((rs r_22).2.drop iN).take nN = rl (itN (fun j X => r_add 240 (lf (rs r_22).2 (iN + j)) X) j (r_nil Xw)) from by rw [show j = nN by omega, rl_cut (by omega) (by rw [r_nil]; omega), rl_nil, List.nil_append], rl_len]
                show _ = (s_cut (cd, pl, df, tx, kp, rs) (nI tN) (nI uN) (nI iN) (nI nN)).1 ∧ InvC cI cT o (s_cut (cd, pl, df, tx, kp, rs) (nI tN) (nI uN) (nI iN) (nI nN)).2 _
                rw [e9]
                exact ⟨rfl, tA, kA, dr, drI, wk, wkI, sw, swI, aT', aI', Xd, hC⟩
              ·
                have c_113 : ¬ (iN + nN ≤ iN + j) := fun q9 => absurd ((nI_leI (by omega) (by omega)).mpr q9) (show ¬ (nI (iN + nN) ≤ nI (iN + j)) from c_113)
                refine lv_iload hx hb dX2_cut_116 (lv_at hl 6 rfl) ?_
                refine lv_aload hx hb dX2_cut_118 (lv_at hl 5 rfl) ?_
                refine wd_get (ci := 1) (v := .ref (aI r_22)) (C := RX1) (T := TX1) (N := 2) hx hb hts (by decide +kernel) hown hK.1 hW (hC.2.2.2.2.2.2.2.1 r_22 hl_22).1 rfl 1 (by decide) (hts (.fieldLink RX2 93 "CharRows$Text" "items" "[I") (by decide +kernel)) (fun _ h9 => h9) rfl dX2_cut_120 ?_
                refine wd_alen hx hb hK.1 hW 0 (hC.2.2.2.2.2.2.2.1 r_22 hl_22).2.1 rfl dX2_cut_123 ?_
                refine lv_icmp_ge (tgt := 148) hx hb dX2_cut_124 (by decide) (fun c_124 => ?_) (fun c_124 => ?_)
                ·
                  have c_124 : (rs r_22).2.length ≤ iN + j := (nI_leI (by omega) (by omega)).mp (show (nI ((rs r_22).2.length) ≤ nI (iN + j)) from c_124)
                  refine lv_aload_n hx hb dX2_cut_148 rfl (lv_at hl 0 rfl) ?_
                  refine lv_iload_n hx hb dX2_cut_149 rfl (lv_at hl 1 rfl) ?_
                  refine lv_aload hx hb dX2_cut_150 (lv_at hl 5 rfl) ?_
                  refine wd_get (ci := 1) (v := .int ((rs r_22).1)) (C := RX1) (T := TX1) (N := 2) hx hb hts (by decide +kernel) hown hK.1 hW (hC.2.2.2.2.2.2.2.1 r_22 hl_22).1 rfl 0 (by decide) (hts (.fieldLink RX2 94 "CharRows$Text" "kindOfItems" "I") (by decide +kernel)) (fun _ h9 => h9) rfl dX2_cut_152 ?_
                  refine lv_aload_n hx hb dX2_cut_155 rfl (lv_at hl 0 rfl) ?_
                  refine wd_get (ci := 2) (v := .ref wk) (C := RX2) (T := TX2) (N := 8) hx hb hts (by decide +kernel) hown hK.1 hW hC.1 rfl 4 (by decide) (hts (.fieldLink RX2 31 "CharRows" "work" "LCharRows$Row;") (by decide +kernel)) (fun _ h9 => h9) rfl dX2_cut_156 ?_
                  refine wd_callVi (As := [.int (nI tN), .int ((rs r_22).1), .ref wk]) (rest := []) (c2 := 2) (s2 := 242) ⟨hx, hb, hml, hown, hts⟩ (k_X2_setText l D cI cT (rowSet (rowSet w wk wkI cI 240 (r_nil Xw)) wk wkI cI 240 (itN (fun j X => r_add 240 (lf (rs r_22).2 (iN + j)) X) j (r_nil Xw))) H.size o tA kA (nI kp.length) dr wk sw cd pl (fun t => (tx t).map aT) tN ((rs r_22).1) wk wkI 240 (itN (fun j X => r_add 240 (lf (rs r_22).2 (iN + j)) X) j (r_nil Xw)) hC.1 hC.2.1 (by omega) hXw) (cwV 3 hts gX2_cut_X2_setText rfl rfl rfl (by decide +kernel) ⟨Nat.le_of_ble_eq_true rfl, Nat.le_of_ble_eq_true rfl⟩) gK_ok hK hW (wd_recv (ci := 2) hK.1 hW rfl hC.1) hS hA rfl hl.1 rfl (Nat.le_of_ble_eq_true rfl) dX2_cut_159 ⟨Nat.le_of_ble_eq_true rfl, Nat.le_of_ble_eq_true rfl⟩ rfl rfl (fun r_159 w_159 H locs hp_159 hW hz hS => ?_)
                  obtain ⟨q_r, q_e⟩ := hp_159
                  subst r_159
                  obtain ⟨w_s, aT', aI', hW, hC⟩ := c_setText hC (u_free_spec hwf.2.1 hwf.2.2.1).1 q_e hW
                  refine wd_iret hx hb hr hlocks hW hS dX2_cut_162 ?_
                  have e9 : s_cut (cd, pl, df, tx, kp, rs) (nI tN) (nI uN) (nI iN) (nI nN) = (nI ((itN (fun j X => r_add 240 (lf (rs r_22).2 (iN + j)) X) j (r_nil Xw)).2), 0, pl, df, (va_up tx tN (some (u_free tx kp))), kp, (va_up rs (u_free tx kp) ((rs r_22).1, rl (itN (fun j X => r_add 240 (lf (rs r_22).2 (iN + j)) X) j (r_nil Xw))))) := by simp only [s_cut, if_neg (not_or.mpr ⟨c_4, c_11⟩), s_w1, s_no, s_mk, if_neg c_38, if_neg (bey_no (len := (rs r_22).2.length) (i := iN) (n := nN) (by omega) (by omega) (by omega)), if_neg (show ¬ (0 < nI nN ∧ (rs r_22).1 = 0 ∧ (u_ins (rs r_22).2 iN ∨ u_ins (rs r_22).2 (iN + nN))) from fun q => absurd ((nI_ltI (a := 0) (b := nN) (by omega) (by omega)).mp q.1) (by omega)), hcl_t, hcl_u, hcl_n, hcl_i, htx_22]; rw [show ((rs r_22).2.drop iN).take nN = rl (itN (fun j X => r_add 240 (lf (rs r_22).2 (iN + j)) X) j (r_nil Xw)) from by rw [show j = nN by omega, rl_cut (by omega) (by rw [r_nil]; omega), rl_nil, List.nil_append], rl_len]
                  show _ = (s_cut (cd, pl, df, tx, kp, rs) (nI tN) (nI uN) (nI iN) (nI nN)).1 ∧ InvC cI cT o (s_cut (cd, pl, df, tx, kp, rs) (nI tN) (nI uN) (nI iN) (nI nN)).2 _
                  rw [e9]
                  exact ⟨rfl, tA, kA, dr, drI, wk, wkI, sw, swI, aT', aI', Xd, hC⟩
                ·
                  have c_124 : ¬ ((rs r_22).2.length ≤ iN + j) := fun q9 => absurd ((nI_leI (by omega) (by omega)).mpr q9) (show ¬ (nI ((rs r_22).2.length) ≤ nI (iN + j)) from c_124)
                  refine lv_aload_n hx hb dX2_cut_127 rfl (lv_at hl 0 rfl) ?_
                  refine wd_get (ci := 2) (v := .ref wk) (C := RX2) (T := TX2) (N := 8) hx hb hts (by decide +kernel) hown hK.1 hW hC.1 rfl 4 (by decide) (hts (.fieldLink RX2 31 "CharRows" "work" "LCharRows$Row;") (by decide +kernel)) (fun _ h9 => h9) rfl dX2_cut_128 ?_
                  refine lv_aload hx hb dX2_cut_131 (lv_at hl 5 rfl) ?_
                  refine wd_get (ci := 1) (v := .ref (aI r_22)) (C := RX1) (T := TX1) (N := 2) hx hb hts (by decide +kernel) hown hK.1 hW (hC.2.2.2.2.2.2.2.1 r_22 hl_22).1 rfl 1 (by decide) (hts (.fieldLink RX2 93 "CharRows$Text" "items" "[I") (by decide +kernel)) (fun _ h9 => h9) rfl dX2_cut_133 ?_
                  refine lv_iload hx hb dX2_cut_136 (lv_at hl 6 rfl) ?_
                  refine wd_iald hx hb hK.1 hW 0 (hC.2.2.2.2.2.2.2.1 r_22 hl_22).2.1 rfl (vp_in_nI (by omega) (by omega)) dX2_cut_138 ?_
                  refine wd_topE (y := (lf (rs r_22).2) (iN + j)) (by rw [nI_clamp (by omega)]) ?_
                  refine wd_callVv (As := [.int ((lf (rs r_22).2) (iN + j))]) (rest := []) (c2 := 0) (s2 := 0) ⟨hx, hb, hml, hown, hts⟩ (k_X0_add l D cI cT (rowSet (rowSet w wk wkI cI 240 (r_nil Xw)) wk wkI cI 240 (itN (fun j X => r_add 240 (lf (rs r_22).2 (iN + j)) X) j (r_nil Xw))) H.size wk wkI 240 (itN (fun j X => r_add 240 (lf (rs r_22).2 (iN + j)) X) j (r_nil Xw)) ((lf (rs r_22).2) (iN + j)) hXw) (cwV 1 hts gX2_cut_X0_add rfl rfl rfl (by decide +kernel) ⟨Nat.le_of_ble_eq_true rfl, Nat.le_of_ble_eq_true rfl⟩) gK_ok hK hW (wd_recv (ci := 0) hK.1 hW rfl hXw.1) hS hA rfl hl.1 rfl (Nat.le_of_ble_eq_true rfl) dX2_cut_139 ⟨Nat.le_of_ble_eq_true rfl, Nat.le_of_ble_eq_true rfl⟩ rfl rfl (fun w_139 H locs hp_139 hW hz hS => ?_)
                  subst w_139
                  have hXs := hC.kWS (Y := r_add 240 ((lf (rs r_22).2) (iN + j)) (itN (fun j X => r_add 240 (lf (rs r_22).2 (iN + j)) X) j (r_nil Xw))) hXs
                  have hXw : rowAt (rowSet (rowSet (rowSet w wk wkI cI 240 (r_nil Xw)) wk wkI cI 240 (itN (fun j X => r_add 240 (lf (rs r_22).2 (iN + j)) X) j (r_nil Xw))) wk wkI cI 240 (r_add 240 ((lf (rs r_22).2) (iN + j)) (itN (fun j X => r_add 240 (lf (rs r_22).2 (iN + j)) X) j (r_nil Xw)))) wk wkI cI 240 (r_add 240 ((lf (rs r_22).2) (iN + j)) (itN (fun j X => r_add 240 (lf (rs r_22).2 (iN + j)) X) j (r_nil Xw))) := rowSet_at hXw.ne (r_add_le hXw.2.2.1) (by omega)
                  have hC := hC.work (r_add 240 ((lf (rs r_22).2) (iN + j)) (itN (fun j X => r_add 240 (lf (rs r_22).2 (iN + j)) X) j (r_nil Xw))) hXw.2.2.1
                  have hXc_139 := hXw.2.2.1
                  refine lv_iinc (v := nI (iN + j + 1)) (lv' := [(6, .int (nI (iN + j + 1))), (0, .ref o), (1, .int (nI tN)), (2, .int (nI uN)), (3, .int (nI iN)), (4, .int (nI nN)), (5, .ref (aT r_22))]) hx hb dX2_cut_142 hl (k := 6) rfl (nI_add (iN + j) 1) (by decide) rfl (fun ls hl => ?_)
                  refine lv_goto (tgt := 107) hx hb dX2_cut_145 (by decide) ?_
                  rw [rowSet_twice] at hW
                  exact ih (j + 1) H locs ls ⟨(by omega), hW, hS, (lv_sub hl [1, 2, 3, 4, 5, 6, 0] rfl)⟩ (by omega)
            ·
              have c_66 : ¬ (nN ≤ 0) := fun q9 => absurd ((nI_leI (by omega) (by omega)).mpr q9) (show ¬ (nI nN ≤ nI 0) from c_66)
              refine lv_aload hx hb dX2_cut_69 (lv_at hl 0 rfl) ?_
              refine lv_iload_n hx hb dX2_cut_71 rfl (lv_at hl 4 rfl) ?_
              refine wd_callSi (As := [.ref (aT r_22), .int (nI iN)]) (rest := []) (c2 := 0) (s2 := 0) ⟨hx, hb, hml, hown, hts⟩ (k_X2_partsPair l D cI cT w H.size (aT r_22) (aI r_22) ((rs r_22).1) ((rs r_22).2.length) (lf (rs r_22).2) (nI iN) (⟨(hC.2.2.2.2.2.2.2.1 r_22 hl_22).1, (hC.2.2.2.2.2.2.2.1 r_22 hl_22).2.1, by omega⟩)) (va_cwS 2 hts gX2_cut_X2_partsPair rfl rfl rfl (by decide +kernel) ⟨Nat.le_of_ble_eq_true rfl, Nat.le_of_ble_eq_true rfl⟩) gK_ok hK hW hS hA rfl hl.1 rfl (Nat.le_of_ble_eq_true rfl) dX2_cut_72 ⟨Nat.le_of_ble_eq_true rfl, Nat.le_of_ble_eq_true rfl⟩ rfl rfl (fun r_72 w_72 H locs hp_72 hW hz hS => ?_)
              obtain ⟨q_r, q_w⟩ := hp_72
              subst r_72
              subst w_72
              refine lv_if_ne (tgt := 90) hx hb dX2_cut_75 (by decide) (fun c_75 => ?_) (fun c_75 => ?_)
              ·
                have c_75 := j_bn c_75
                refine lv_aload_n hx hb dX2_cut_90 rfl (lv_at hl 1 rfl) ?_
                refine lv_bipush (v := 7) hx hb dX2_cut_91 (by decide) ?_
                refine wd_callVi (As := [.int 7]) (rest := []) (c2 := 0) (s2 := 0) ⟨hx, hb, hml, hown, hts⟩ (k_X2_refuse l D cI cT w H.size o tA kA (nI kp.length) dr wk sw cd pl 7 hC.1) (cwV 1 hts gX2_cut_X2_refuse rfl rfl rfl (by decide +kernel) ⟨Nat.le_of_ble_eq_true rfl, Nat.le_of_ble_eq_true rfl⟩) gK_ok hK hW (wd_recv (ci := 2) hK.1 hW rfl hC.1) hS hA rfl hl.1 rfl (Nat.le_of_ble_eq_true rfl) dX2_cut_93 ⟨Nat.le_of_ble_eq_true rfl, Nat.le_of_ble_eq_true rfl⟩ rfl rfl (fun r_93 w_93 H locs hp_93 hW hz hS => ?_)
                obtain ⟨q_r, q_w⟩ := hp_93
                subst r_93
                subst w_93
                have hC := hC.obj 7 pl
                refine W.widen (k := 2) (n := 242) (by omega) (by omega) ?_
                refine wd_iret hx hb hr hlocks hW hS dX2_cut_96 ?_
                have e9 : s_cut (cd, pl, df, tx, kp, rs) (nI tN) (nI uN) (nI iN) (nI nN) = (0, 7, pl, df, tx, kp, rs) := by simp only [s_cut, if_neg (not_or.mpr ⟨c_4, c_11⟩), s_w1, s_no, s_mk, if_neg c_38, if_neg (bey_no (len := (rs r_22).2.length) (i := iN) (n := nN) (by omega) (by omega) (by omega)), if_pos (show 0 < nI nN ∧ (rs r_22).1 = 0 ∧ (u_ins (rs r_22).2 iN ∨ u_ins (rs r_22).2 (iN + nN)) from ⟨(nI_lt (a := 0) (b := nN) (by omega) (by omega)), ((parts_iff (by omega) (by omega)).mp c_75).1, Or.inl ((parts_iff (by omega) (by omega)).mp c_75).2⟩), hcl_t, hcl_u, hcl_n, hcl_i, htx_22]
                show _ = (s_cut (cd, pl, df, tx, kp, rs) (nI tN) (nI uN) (nI iN) (nI nN)).1 ∧ InvC cI cT o (s_cut (cd, pl, df, tx, kp, rs) (nI tN) (nI uN) (nI iN) (nI nN)).2 _
                rw [e9]
                exact ⟨rfl, tA, kA, dr, drI, wk, wkI, sw, swI, aT, aI, Xd, hC⟩
              ·
                have c_75 := j_b0 c_75
                refine lv_aload hx hb dX2_cut_78 (lv_at hl 0 rfl) ?_
                refine lv_iload_n hx hb dX2_cut_80 rfl (lv_at hl 4 rfl) ?_
                refine lv_iload hx hb dX2_cut_81 (lv_at hl 5 rfl) ?_
                refine lv_iadd hx hb dX2_cut_83 ?_
                refine wd_topE (y := nI (iN + nN)) (nI_add _ _) ?_
                refine wd_callSi (As := [.ref (aT r_22), .int (nI (iN + nN))]) (rest := []) (c2 := 0) (s2 := 0) ⟨hx, hb, hml, hown, hts⟩ (k_X2_partsPair l D cI cT w H.size (aT r_22) (aI r_22) ((rs r_22).1) ((rs r_22).2.length) (lf (rs r_22).2) (nI (iN + nN)) (⟨(hC.2.2.2.2.2.2.2.1 r_22 hl_22).1, (hC.2.2.2.2.2.2.2.1 r_22 hl_22).2.1, by omega⟩)) (va_cwS 2 hts gX2_cut_X2_partsPair rfl rfl rfl (by decide +kernel) ⟨Nat.le_of_ble_eq_true rfl, Nat.le_of_ble_eq_true rfl⟩) gK_ok hK hW hS hA rfl hl.1 rfl (Nat.le_of_ble_eq_true rfl) dX2_cut_84 ⟨Nat.le_of_ble_eq_true rfl, Nat.le_of_ble_eq_true rfl⟩ rfl rfl (fun r_84 w_84 H locs hp_84 hW hz hS => ?_)
                obtain ⟨q_r, q_w⟩ := hp_84
                subst r_84
                subst w_84
                refine lv_if_eq (tgt := 97) hx hb dX2_cut_87 (by decide) (fun c_87 => ?_) (fun c_87 => ?_)
                ·
                  have c_87 := j_b0 c_87
                  refine lv_aload_n hx hb dX2_cut_97 rfl (lv_at hl 1 rfl) ?_
                  refine wd_get (ci := 2) (v := .ref wk) (C := RX2) (T := TX2) (N := 8) hx hb hts (by decide +kernel) hown hK.1 hW hC.1 rfl 4 (by decide) (hts (.fieldLink RX2 31 "CharRows" "work" "LCharRows$Row;") (by decide +kernel)) (fun _ h9 => h9) rfl dX2_cut_98 ?_
                  refine wd_callVv (As := []) (rest := []) (c2 := 0) (s2 := 0) ⟨hx, hb, hml, hown, hts⟩ (k_X0_empty l D cI cT w H.size wk wkI 240 Xw hXw) (cwV 0 hts gX2_cut_X0_empty rfl rfl rfl (by decide +kernel) ⟨Nat.le_of_ble_eq_true rfl, Nat.le_of_ble_eq_true rfl⟩) gK_ok hK hW (wd_recv (ci := 0) hK.1 hW rfl hXw.1) hS hA rfl hl.1 rfl (Nat.le_of_ble_eq_true rfl) dX2_cut_101 ⟨Nat.le_of_ble_eq_true rfl, Nat.le_of_ble_eq_true rfl⟩ rfl rfl (fun w_101 H locs hp_101 hW hz hS => ?_)
                  subst w_101
                  have hXs := hC.kWS (Y := r_nil Xw) hXs
                  have hXw : rowAt (rowSet w wk wkI cI 240 (r_nil Xw)) wk wkI cI 240 (r_nil Xw) := rowSet_at hXw.ne (Nat.zero_le _) (by omega)
                  have hC := hC.work (r_nil Xw) hXw.2.2.1
                  have hXc_101 := hXw.2.2.1
                  refine lv_iload_n hx hb dX2_cut_104 rfl (lv_at hl 4 rfl) ?_
                  refine lv_istore (lv' := [(6, .int (nI iN)), (5, .ref (aT r_22)), (0, .ref o), (1, .int (nI tN)), (2, .int (nI uN)), (3, .int (nI iN)), (4, .int (nI nN))]) hx hb dX2_cut_105 hl (by decide) rfl (fun ls hl => ?_)
                  refine wd_loop1 (fun (j : Nat) (H : Heap) (locs : List Loc) (ls : Array Slot) => (j ≤ nN) ∧ wd_P D vwCl (wd_A w sg.heap.size) (rowSet (rowSet w wk wkI cI 240 (r_nil Xw)) wk wkI cI 240 (itN (fun j X => r_add 240 (lf (rs r_22).2 (iN + j)) X) j (r_nil Xw))) H ∧ va_S (wd_A w sg.heap.size) sg.heap H locs ∧ lv_has ls 7 [(0, .ref o), (1, .int (nI tN)), (2, .int (nI uN)), (3, .int (nI iN)), (4, .int (nI nN)), (5, .ref (aT r_22)), (6, .int (nI (iN + j)))]) (fun (j : Nat) => nN - j) 0 ⟨(Nat.zero_le _), (by rw [show itN (fun j X => r_add 240 (lf (rs r_22).2 (iN + j)) X) 0 (r_nil Xw) = r_nil Xw from rfl, rowSet_self hXw]; exact hW), hS, (lv_sub hl [2, 3, 4, 5, 6, 1, 0] rfl)⟩ (fun j H locs ls hI ih => ?_)
                  obtain ⟨hj, hW, hS, hl⟩ := hI
                  have hXs := hC.kWS (Y := itN (fun j X => r_add 240 (lf (rs r_22).2 (iN + j)) X) j (r_nil Xw)) hXs
                  have hXw : rowAt (rowSet (rowSet w wk wkI cI 240 (r_nil Xw)) wk wkI cI 240 (itN (fun j X => r_add 240 (lf (rs r_22).2 (iN + j)) X) j (r_nil Xw))) wk wkI cI 240 (itN (fun j X => r_add 240 (lf (rs r_22).2 (iN + j)) X) j (r_nil Xw)) := rowSet_at hXw.ne (itN_le (fun _ _ h => r_add_le h) _ _ (Nat.zero_le _)) (by omega)
                  have hC := hC.work (itN (fun j X => r_add 240 (lf (rs r_22).2 (iN + j)) X) j (r_nil Xw)) hXw.2.2.1
                  have hXc_105 := hXw.2.2.1
                  refine lv_iload hx hb dX2_cut_107 (lv_at hl 6 rfl) ?_
                  refine lv_iload_n hx hb dX2_cut_109 rfl (lv_at hl 3 rfl) ?_
                  refine lv_iload hx hb dX2_cut_110 (lv_at hl 4 rfl) ?_
                  refine lv_iadd hx hb dX2_cut_112 ?_
                  refine wd_topE (y := nI (iN + nN)) (nI_add _ _) ?_
                  refine lv_icmp_ge (tgt := 148) hx hb dX2_cut_113 (by decide) (fun c_113 => ?_) (fun c_113 => ?_)
                  ·
                    have c_113 : iN + nN ≤ iN + j := (nI_leI (by omega) (by omega)).mp (show (nI (iN + nN) ≤ nI (iN + j)) from c_113)
                    refine lv_aload_n hx hb dX2_cut_148 rfl (lv_at hl 0 rfl) ?_
                    refine lv_iload_n hx hb dX2_cut_149 rfl (lv_at hl 1 rfl) ?_
                    refine lv_aload hx hb dX2_cut_150 (lv_at hl 5 rfl) ?_
                    refine wd_get (ci := 1) (v := .int ((rs r_22).1)) (C := RX1) (T := TX1) (N := 2) hx hb hts (by decide +kernel) hown hK.1 hW (hC.2.2.2.2.2.2.2.1 r_22 hl_22).1 rfl 0 (by decide) (hts (.fieldLink RX2 94 "CharRows$Text" "kindOfItems" "I") (by decide +kernel)) (fun _ h9 => h9) rfl dX2_cut_152 ?_
                    refine lv_aload_n hx hb dX2_cut_155 rfl (lv_at hl 0 rfl) ?_
                    refine wd_get (ci := 2) (v := .ref wk) (C := RX2) (T := TX2) (N := 8) hx hb hts (by decide +kernel) hown hK.1 hW hC.1 rfl 4 (by decide) (hts (.fieldLink RX2 31 "CharRows" "work" "LCharRows$Row;") (by decide +kernel)) (fun _ h9 => h9) rfl dX2_cut_156 ?_
                    refine wd_callVi (As := [.int (nI tN), .int ((rs r_22).1), .ref wk]) (rest := []) (c2 := 2) (s2 := 242) ⟨hx, hb, hml, hown, hts⟩ (k_X2_setText l D cI cT (rowSet (rowSet w wk wkI cI 240 (r_nil Xw)) wk wkI cI 240 (itN (fun j X => r_add 240 (lf (rs r_22).2 (iN + j)) X) j (r_nil Xw))) H.size o tA kA (nI kp.length) dr wk sw cd pl (fun t => (tx t).map aT) tN ((rs r_22).1) wk wkI 240 (itN (fun j X => r_add 240 (lf (rs r_22).2 (iN + j)) X) j (r_nil Xw)) hC.1 hC.2.1 (by omega) hXw) (cwV 3 hts gX2_cut_X2_setText rfl rfl rfl (by decide +kernel) ⟨Nat.le_of_ble_eq_true rfl, Nat.le_of_ble_eq_true rfl⟩) gK_ok hK hW (wd_recv (ci := 2) hK.1 hW rfl hC.1) hS hA rfl hl.1 rfl (Nat.le_of_ble_eq_true rfl) dX2_cut_159 ⟨Nat.le_of_ble_eq_true rfl, Nat.le_of_ble_eq_true rfl⟩ rfl rfl (fun r_159 w_159 H locs hp_159 hW hz hS => ?_)
                    obtain ⟨q_r, q_e⟩ := hp_159
                    subst r_159
                    obtain ⟨w_s, aT', aI', hW, hC⟩ := c_setText hC (u_free_spec hwf.2.1 hwf.2.2.1).1 q_e hW
                    refine wd_iret hx hb hr hlocks hW hS dX2_cut_162 ?_
                    have e9 : s_cut (cd, pl, df, tx, kp, rs) (nI tN) (nI uN) (nI iN) (nI nN) = (nI ((itN (fun j X => r_add 240 (lf (rs r_22).2 (iN + j)) X) j (r_nil Xw)).2), 0, pl, df, (va_up tx tN (some (u_free tx kp))), kp, (va_up rs (u_free tx kp) ((rs r_22).1, rl (itN (fun j X => r_add 240 (lf (rs r_22).2 (iN + j)) X) j (r_nil Xw))))) := by simp only [s_cut, if_neg (not_or.mpr ⟨c_4, c_11⟩), s_w1, s_no, s_mk, if_neg c_38, if_neg (bey_no (len := (rs r_22).2.length) (i := iN) (n := nN) (by omega) (by omega) (by omega)), if_neg (show ¬ (0 < nI nN ∧ (rs r_22).1 = 0 ∧ (u_ins (rs r_22).2 iN ∨ u_ins (rs r_22).2 (iN + nN))) from fun q => q.2.2.elim (fun z => c_75 ((parts_iff (by omega) (by omega)).mpr ⟨q.2.1, z⟩)) (fun z => c_87 ((parts_iff (by omega) (by omega)).mpr ⟨q.2.1, z⟩))), hcl_t, hcl_u, hcl_n, hcl_i, htx_22]; rw [show ((rs r_22).2.drop iN).take nN = rl (itN (fun j X => r_add 240 (lf (rs r_22).2 (iN + j)) X) j (r_nil Xw)) from by rw [show j = nN by omega, rl_cut (by omega) (by rw [r_nil]; omega), rl_nil, List.nil_append], rl_len]
                    show _ = (s_cut (cd, pl, df, tx, kp, rs) (nI tN) (nI uN) (nI iN) (nI nN)).1 ∧ InvC cI cT o (s_cut (cd, pl, df, tx, kp, rs) (nI tN) (nI uN) (nI iN) (nI nN)).2 _
                    rw [e9]
                    exact ⟨rfl, tA, kA, dr, drI, wk, wkI, sw, swI, aT', aI', Xd, hC⟩
                  ·
                    have c_113 : ¬ (iN + nN ≤ iN + j) := fun q9 => absurd ((nI_leI (by omega) (by omega)).mpr q9) (show ¬ (nI (iN + nN) ≤ nI (iN + j)) from c_113)
                    refine lv_iload hx hb dX2_cut_116 (lv_at hl 6 rfl) ?_
                    refine lv_aload hx hb dX2_cut_118 (lv_at hl 5 rfl) ?_
                    refine wd_get (ci := 1) (v := .ref (aI r_22)) (C := RX1) (T := TX1) (N := 2) hx hb hts (by decide +kernel) hown hK.1 hW (hC.2.2.2.2.2.2.2.1 r_22 hl_22).1 rfl 1 (by decide) (hts (.fieldLink RX2 93 "CharRows$Text" "items" "[I") (by decide +kernel)) (fun _ h9 => h9) rfl dX2_cut_120 ?_
                    refine wd_alen hx hb hK.1 hW 0 (hC.2.2.2.2.2.2.2.1 r_22 hl_22).2.1 rfl dX2_cut_123 ?_
                    refine lv_icmp_ge (tgt := 148) hx hb dX2_cut_124 (by decide) (fun c_124 => ?_) (fun c_124 => ?_)
                    ·
                      have c_124 : (rs r_22).2.length ≤ iN + j := (nI_leI (by omega) (by omega)).mp (show (nI ((rs r_22).2.length) ≤ nI (iN + j)) from c_124)
                      refine lv_aload_n hx hb dX2_cut_148 rfl (lv_at hl 0 rfl) ?_
                      refine lv_iload_n hx hb dX2_cut_149 rfl (lv_at hl 1 rfl) ?_
                      refine lv_aload hx hb dX2_cut_150 (lv_at hl 5 rfl) ?_
                      refine wd_get (ci := 1) (v := .int ((rs r_22).1)) (C := RX1) (T := TX1) (N := 2) hx hb hts (by decide +kernel) hown hK.1 hW (hC.2.2.2.2.2.2.2.1 r_22 hl_22).1 rfl 0 (by decide) (hts (.fieldLink RX2 94 "CharRows$Text" "kindOfItems" "I") (by decide +kernel)) (fun _ h9 => h9) rfl dX2_cut_152 ?_
                      refine lv_aload_n hx hb dX2_cut_155 rfl (lv_at hl 0 rfl) ?_
                      refine wd_get (ci := 2) (v := .ref wk) (C := RX2) (T := TX2) (N := 8) hx hb hts (by decide +kernel) hown hK.1 hW hC.1 rfl 4 (by decide) (hts (.fieldLink RX2 31 "CharRows" "work" "LCharRows$Row;") (by decide +kernel)) (fun _ h9 => h9) rfl dX2_cut_156 ?_
                      refine wd_callVi (As := [.int (nI tN), .int ((rs r_22).1), .ref wk]) (rest := []) (c2 := 2) (s2 := 242) ⟨hx, hb, hml, hown, hts⟩ (k_X2_setText l D cI cT (rowSet (rowSet w wk wkI cI 240 (r_nil Xw)) wk wkI cI 240 (itN (fun j X => r_add 240 (lf (rs r_22).2 (iN + j)) X) j (r_nil Xw))) H.size o tA kA (nI kp.length) dr wk sw cd pl (fun t => (tx t).map aT) tN ((rs r_22).1) wk wkI 240 (itN (fun j X => r_add 240 (lf (rs r_22).2 (iN + j)) X) j (r_nil Xw)) hC.1 hC.2.1 (by omega) hXw) (cwV 3 hts gX2_cut_X2_setText rfl rfl rfl (by decide +kernel) ⟨Nat.le_of_ble_eq_true rfl, Nat.le_of_ble_eq_true rfl⟩) gK_ok hK hW (wd_recv (ci := 2) hK.1 hW rfl hC.1) hS hA rfl hl.1 rfl (Nat.le_of_ble_eq_true rfl) dX2_cut_159 ⟨Nat.le_of_ble_eq_true rfl, Nat.le_of_ble_eq_true rfl⟩ rfl rfl (fun r_159 w_159 H locs hp_159 hW hz hS => ?_)
                      obtain ⟨q_r, q_e⟩ := hp_159
                      subst r_159
                      obtain ⟨w_s, aT', aI', hW, hC⟩ := c_setText hC (u_free_spec hwf.2.1 hwf.2.2.1).1 q_e hW
                      refine wd_iret hx hb hr hlocks hW hS dX2_cut_162 ?_
                      have e9 : s_cut (cd, pl, df, tx, kp, rs) (nI tN) (nI uN) (nI iN) (nI nN) = (nI ((itN (fun j X => r_add 240 (lf (rs r_22).2 (iN + j)) X) j (r_nil Xw)).2), 0, pl, df, (va_up tx tN (some (u_free tx kp))), kp, (va_up rs (u_free tx kp) ((rs r_22).1, rl (itN (fun j X => r_add 240 (lf (rs r_22).2 (iN + j)) X) j (r_nil Xw))))) := by simp only [s_cut, if_neg (not_or.mpr ⟨c_4, c_11⟩), s_w1, s_no, s_mk, if_neg c_38, if_neg (bey_no (len := (rs r_22).2.length) (i := iN) (n := nN) (by omega) (by omega) (by omega)), if_neg (show ¬ (0 < nI nN ∧ (rs r_22).1 = 0 ∧ (u_ins (rs r_22).2 iN ∨ u_ins (rs r_22).2 (iN + nN))) from fun q => q.2.2.elim (fun z => c_75 ((parts_iff (by omega) (by omega)).mpr ⟨q.2.1, z⟩)) (fun z => c_87 ((parts_iff (by omega) (by omega)).mpr ⟨q.2.1, z⟩))), hcl_t, hcl_u, hcl_n, hcl_i, htx_22]; rw [show ((rs r_22).2.drop iN).take nN = rl (itN (fun j X => r_add 240 (lf (rs r_22).2 (iN + j)) X) j (r_nil Xw)) from by rw [show j = nN by omega, rl_cut (by omega) (by rw [r_nil]; omega), rl_nil, List.nil_append], rl_len]
                      show _ = (s_cut (cd, pl, df, tx, kp, rs) (nI tN) (nI uN) (nI iN) (nI nN)).1 ∧ InvC cI cT o (s_cut (cd, pl, df, tx, kp, rs) (nI tN) (nI uN) (nI iN) (nI nN)).2 _
                      rw [e9]
                      exact ⟨rfl, tA, kA, dr, drI, wk, wkI, sw, swI, aT', aI', Xd, hC⟩
                    ·
                      have c_124 : ¬ ((rs r_22).2.length ≤ iN + j) := fun q9 => absurd ((nI_leI (by omega) (by omega)).mpr q9) (show ¬ (nI ((rs r_22).2.length) ≤ nI (iN + j)) from c_124)
                      refine lv_aload_n hx hb dX2_cut_127 rfl (lv_at hl 0 rfl) ?_
                      refine wd_get (ci := 2) (v := .ref wk) (C := RX2) (T := TX2) (N := 8) hx hb hts (by decide +kernel) hown hK.1 hW hC.1 rfl 4 (by decide) (hts (.fieldLink RX2 31 "CharRows" "work" "LCharRows$Row;") (by decide +kernel)) (fun _ h9 => h9) rfl dX2_cut_128 ?_
                      refine lv_aload hx hb dX2_cut_131 (lv_at hl 5 rfl) ?_
                      refine wd_get (ci := 1) (v := .ref (aI r_22)) (C := RX1) (T := TX1) (N := 2) hx hb hts (by decide +kernel) hown hK.1 hW (hC.2.2.2.2.2.2.2.1 r_22 hl_22).1 rfl 1 (by decide) (hts (.fieldLink RX2 93 "CharRows$Text" "items" "[I") (by decide +kernel)) (fun _ h9 => h9) rfl dX2_cut_133 ?_
                      refine lv_iload hx hb dX2_cut_136 (lv_at hl 6 rfl) ?_
                      refine wd_iald hx hb hK.1 hW 0 (hC.2.2.2.2.2.2.2.1 r_22 hl_22).2.1 rfl (vp_in_nI (by omega) (by omega)) dX2_cut_138 ?_
                      refine wd_topE (y := (lf (rs r_22).2) (iN + j)) (by rw [nI_clamp (by omega)]) ?_
                      refine wd_callVv (As := [.int ((lf (rs r_22).2) (iN + j))]) (rest := []) (c2 := 0) (s2 := 0) ⟨hx, hb, hml, hown, hts⟩ (k_X0_add l D cI cT (rowSet (rowSet w wk wkI cI 240 (r_nil Xw)) wk wkI cI 240 (itN (fun j X => r_add 240 (lf (rs r_22).2 (iN + j)) X) j (r_nil Xw))) H.size wk wkI 240 (itN (fun j X => r_add 240 (lf (rs r_22).2 (iN + j)) X) j (r_nil Xw)) ((lf (rs r_22).2) (iN + j)) hXw) (cwV 1 hts gX2_cut_X0_add rfl rfl rfl (by decide +kernel) ⟨Nat.le_of_ble_eq_true rfl, Nat.le_of_ble_eq_true rfl⟩) gK_ok hK hW (wd_recv (ci := 0) hK.1 hW rfl hXw.1) hS hA rfl hl.1 rfl (Nat.le_of_ble_eq_true rfl) dX2_cut_139 ⟨Nat.le_of_ble_eq_true rfl, Nat.le_of_ble_eq_true rfl⟩ rfl rfl (fun w_139 H locs hp_139 hW hz hS => ?_)
                      subst w_139
                      have hXs := hC.kWS (Y := r_add 240 ((lf (rs r_22).2) (iN + j)) (itN (fun j X => r_add 240 (lf (rs r_22).2 (iN + j)) X) j (r_nil Xw))) hXs
                      have hXw : rowAt (rowSet (rowSet (rowSet w wk wkI cI 240 (r_nil Xw)) wk wkI cI 240 (itN (fun j X => r_add 240 (lf (rs r_22).2 (iN + j)) X) j (r_nil Xw))) wk wkI cI 240 (r_add 240 ((lf (rs r_22).2) (iN + j)) (itN (fun j X => r_add 240 (lf (rs r_22).2 (iN + j)) X) j (r_nil Xw)))) wk wkI cI 240 (r_add 240 ((lf (rs r_22).2) (iN + j)) (itN (fun j X => r_add 240 (lf (rs r_22).2 (iN + j)) X) j (r_nil Xw))) := rowSet_at hXw.ne (r_add_le hXw.2.2.1) (by omega)
                      have hC := hC.work (r_add 240 ((lf (rs r_22).2) (iN + j)) (itN (fun j X => r_add 240 (lf (rs r_22).2 (iN + j)) X) j (r_nil Xw))) hXw.2.2.1
                      have hXc_139 := hXw.2.2.1
                      refine lv_iinc (v := nI (iN + j + 1)) (lv' := [(6, .int (nI (iN + j + 1))), (0, .ref o), (1, .int (nI tN)), (2, .int (nI uN)), (3, .int (nI iN)), (4, .int (nI nN)), (5, .ref (aT r_22))]) hx hb dX2_cut_142 hl (k := 6) rfl (nI_add (iN + j) 1) (by decide) rfl (fun ls hl => ?_)
                      refine lv_goto (tgt := 107) hx hb dX2_cut_145 (by decide) ?_
                      rw [rowSet_twice] at hW
                      exact ih (j + 1) H locs ls ⟨(by omega), hW, hS, (lv_sub hl [1, 2, 3, 4, 5, 6, 0] rfl)⟩ (by omega)
                ·
                  have c_87 := j_bn c_87
                  refine lv_aload_n hx hb dX2_cut_90 rfl (lv_at hl 1 rfl) ?_
                  refine lv_bipush (v := 7) hx hb dX2_cut_91 (by decide) ?_
                  refine wd_callVi (As := [.int 7]) (rest := []) (c2 := 0) (s2 := 0) ⟨hx, hb, hml, hown, hts⟩ (k_X2_refuse l D cI cT w H.size o tA kA (nI kp.length) dr wk sw cd pl 7 hC.1) (cwV 1 hts gX2_cut_X2_refuse rfl rfl rfl (by decide +kernel) ⟨Nat.le_of_ble_eq_true rfl, Nat.le_of_ble_eq_true rfl⟩) gK_ok hK hW (wd_recv (ci := 2) hK.1 hW rfl hC.1) hS hA rfl hl.1 rfl (Nat.le_of_ble_eq_true rfl) dX2_cut_93 ⟨Nat.le_of_ble_eq_true rfl, Nat.le_of_ble_eq_true rfl⟩ rfl rfl (fun r_93 w_93 H locs hp_93 hW hz hS => ?_)
                  obtain ⟨q_r, q_w⟩ := hp_93
                  subst r_93
                  subst w_93
                  have hC := hC.obj 7 pl
                  refine W.widen (k := 2) (n := 242) (by omega) (by omega) ?_
                  refine wd_iret hx hb hr hlocks hW hS dX2_cut_96 ?_
                  have e9 : s_cut (cd, pl, df, tx, kp, rs) (nI tN) (nI uN) (nI iN) (nI nN) = (0, 7, pl, df, tx, kp, rs) := by simp only [s_cut, if_neg (not_or.mpr ⟨c_4, c_11⟩), s_w1, s_no, s_mk, if_neg c_38, if_neg (bey_no (len := (rs r_22).2.length) (i := iN) (n := nN) (by omega) (by omega) (by omega)), if_pos (show 0 < nI nN ∧ (rs r_22).1 = 0 ∧ (u_ins (rs r_22).2 iN ∨ u_ins (rs r_22).2 (iN + nN)) from ⟨(nI_lt (a := 0) (b := nN) (by omega) (by omega)), ((parts_iff (by omega) (by omega)).mp c_87).1, Or.inr ((parts_iff (by omega) (by omega)).mp c_87).2⟩), hcl_t, hcl_u, hcl_n, hcl_i, htx_22]
                  show _ = (s_cut (cd, pl, df, tx, kp, rs) (nI tN) (nI uN) (nI iN) (nI nN)).1 ∧ InvC cI cT o (s_cut (cd, pl, df, tx, kp, rs) (nI tN) (nI uN) (nI iN) (nI nN)).2 _
                  rw [e9]
                  exact ⟨rfl, tA, kA, dr, drI, wk, wkI, sw, swI, aT, aI, Xd, hC⟩
          ·
            have c_55 := j_bn c_55
            refine lv_aload_n hx hb dX2_cut_58 rfl (lv_at hl 1 rfl) ?_
            refine lv_iconst (v := 3) hx hb dX2_cut_59 (by decide) ?_
            refine wd_callVi (As := [.int 3]) (rest := []) (c2 := 0) (s2 := 0) ⟨hx, hb, hml, hown, hts⟩ (k_X2_refuse l D cI cT w H.size o tA kA (nI kp.length) dr wk sw cd pl 3 hC.1) (cwV 1 hts gX2_cut_X2_refuse rfl rfl rfl (by decide +kernel) ⟨Nat.le_of_ble_eq_true rfl, Nat.le_of_ble_eq_true rfl⟩) gK_ok hK hW (wd_recv (ci := 2) hK.1 hW rfl hC.1) hS hA rfl hl.1 rfl (Nat.le_of_ble_eq_true rfl) dX2_cut_60 ⟨Nat.le_of_ble_eq_true rfl, Nat.le_of_ble_eq_true rfl⟩ rfl rfl (fun r_60 w_60 H locs hp_60 hW hz hS => ?_)
            obtain ⟨q_r, q_w⟩ := hp_60
            subst r_60
            subst w_60
            have hC := hC.obj 3 pl
            refine W.widen (k := 2) (n := 242) (by omega) (by omega) ?_
            refine wd_iret hx hb hr hlocks hW hS dX2_cut_63 ?_
            have e9 : s_cut (cd, pl, df, tx, kp, rs) (nI tN) (nI uN) i (nI nN) = (0, 3, pl, df, tx, kp, rs) := by simp only [s_cut, if_neg (not_or.mpr ⟨c_4, c_11⟩), s_w1, s_no, s_mk, if_neg c_38, if_pos ((beyond_iff (by omega)).mp c_55), hcl_t, hcl_u, hcl_n, htx_22]
            show _ = (s_cut (cd, pl, df, tx, kp, rs) (nI tN) (nI uN) i (nI nN)).1 ∧ InvC cI cT o (s_cut (cd, pl, df, tx, kp, rs) (nI tN) (nI uN) i (nI nN)).2 _
            rw [e9]
            exact ⟨rfl, tA, kA, dr, drI, wk, wkI, sw, swI, aT, aI, Xd, hC⟩
        ·
          simp only [i_le, Decidable.not_not] at c_38
          refine lv_aload_n hx hb dX2_cut_41 rfl (lv_at hl 1 rfl) ?_
          refine lv_iconst (v := 4) hx hb dX2_cut_42 (by decide) ?_
          refine wd_callVi (As := [.int 4]) (rest := []) (c2 := 0) (s2 := 0) ⟨hx, hb, hml, hown, hts⟩ (k_X2_refuse l D cI cT w H.size o tA kA (nI kp.length) dr wk sw cd pl 4 hC.1) (cwV 1 hts gX2_cut_X2_refuse rfl rfl rfl (by decide +kernel) ⟨Nat.le_of_ble_eq_true rfl, Nat.le_of_ble_eq_true rfl⟩) gK_ok hK hW (wd_recv (ci := 2) hK.1 hW rfl hC.1) hS hA rfl hl.1 rfl (Nat.le_of_ble_eq_true rfl) dX2_cut_43 ⟨Nat.le_of_ble_eq_true rfl, Nat.le_of_ble_eq_true rfl⟩ rfl rfl (fun r_43 w_43 H locs hp_43 hW hz hS => ?_)
          obtain ⟨q_r, q_w⟩ := hp_43
          subst r_43
          subst w_43
          have hC := hC.obj 4 pl
          refine W.widen (k := 2) (n := 242) (by omega) (by omega) ?_
          refine wd_iret hx hb hr hlocks hW hS dX2_cut_46 ?_
          have e9 : s_cut (cd, pl, df, tx, kp, rs) (nI tN) (nI uN) i n = (0, 4, pl, df, tx, kp, rs) := by simp only [s_cut, if_neg (not_or.mpr ⟨c_4, c_11⟩), s_w1, s_no, s_mk, if_pos c_38, hcl_t, hcl_u, htx_22]
          show _ = (s_cut (cd, pl, df, tx, kp, rs) (nI tN) (nI uN) i n).1 ∧ InvC cI cT o (s_cut (cd, pl, df, tx, kp, rs) (nI tN) (nI uN) i n).2 _
          rw [e9]
          exact ⟨rfl, tA, kA, dr, drI, wk, wkI, sw, swI, aT, aI, Xd, hC⟩
    ·
      have c_11 := j_bn c_11
      refine lv_ldc (v := (-2000000001)) hx hb hown (hts (.constant RX2 47 (-2000000001)) (by decide +kernel)) dX2_cut_14 ?_
      refine W.widen (k := 2) (n := 242) (by omega) (by omega) ?_
      refine wd_iret hx hb hr hlocks hW hS dX2_cut_16 ?_
      have e9 : s_cut (cd, pl, df, tx, kp, rs) (nI tN) u i n = ((-2000000001), cd, pl, df, tx, kp, rs) := by simp only [s_cut, if_pos (Or.inr c_11), s_w1, s_no, s_mk, hcl_t]
      show _ = (s_cut (cd, pl, df, tx, kp, rs) (nI tN) u i n).1 ∧ InvC cI cT o (s_cut (cd, pl, df, tx, kp, rs) (nI tN) u i n).2 _
      rw [e9]
      exact ⟨rfl, tA, kA, dr, drI, wk, wkI, sw, swI, aT, aI, Xd, hC⟩
