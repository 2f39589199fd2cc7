set_option maxHeartbeats 4000000 in
set_option maxRecDepth 100000 in
theorem k_X2_code (l : Launch) (D : va_G) (cI cT : ClassId) (w : Wd) (sz : Nat) (o : Nat) (cd : Int32) (pl : Int32) (df : List Int32) (tx : Nat → Option Nat) (kp : List Nat) (rs : Rws) (hwf : WF (cd, pl, df, tx, kp, rs)) (hI : InvC cI cT o (cd, pl, df, tx, kp, rs) w) : wd_Mi l D vwCl (gK D cI cT) yX2_code wsX2_code (wd_rm 0 0 0) [.ref o] w sz (fun r w' => r = (s_code (cd, pl, df, tx, kp, rs)).1 ∧ InvC cI cT o (s_code (cd, pl, df, tx, kp, rs)).2 w') := by
  refine wd_met (cc := cX2_code) (maxL := 1) (ret := (some .int)) (by decide) rfl (Nat.le_of_ble_eq_true rfl) ?_
  intro pg ev sg mi bl mt cde ls C0 hsz hK hW hl
  obtain ⟨hx, hb, hr, hml, hown, hts, hlocks, hnm⟩ := C0
  subst hsz
  have hown : sg.vm.findClass RX2 = some mi.cls := hown
  have hS : va_S (wd_A w sg.heap.size) sg.heap sg.heap [] := va_S.rf
  have hA : ∀ q, sg.heap.size ≤ q → wd_A w sg.heap.size q := fun q h => Or.inr h
  have hl : lv_has ls 1 [(0, .ref o)] := hl
  obtain ⟨tA, kA, dr, drI, wk, wkI, sw, swI, aT, aI, Xd, hC⟩ := hI
  dsimp only at hC
  obtain ⟨Xw, hXw⟩ := hC.2.2.2.2.1
  obtain ⟨Xs, hXs⟩ := hC.2.2.2.2.2.1
  have hXd1 := hC.2.2.2.1.1.2.2.1
  have hdf := hC.2.2.2.1.2
  have hkp : kp.length ≤ 12 := hwf.2.2.1
  have hdl : df.length = Xd.2 := by rw [← hC.2.2.2.1.2, rl_len]
  have hdg : ∀ j, j < df.length → Xd.1 j = lf df j := fun j hj => by rw [← hdf, lf, rl_getD (by omega)]
  refine lv_aload_n hx hb dX2_code_0 rfl (lv_at hl 0 rfl) ?_
  refine wd_get (ci := 2) (v := .int cd) (C := RX2) (T := TX2) (N := 8) hx hb hts (by decide +kernel) hown hK.1 hW hC.1 rfl 6 (by decide) (hts (.fieldLink RX2 37 "CharRows" "lastCode" "I") (by decide +kernel)) (fun _ h9 => h9) rfl dX2_code_1 ?_
  refine wd_iret hx hb hr hlocks hW hS dX2_code_4 ?_
  have e9 : s_code (cd, pl, df, tx, kp, rs) = (cd, cd, pl, df, tx, kp, rs) := by simp only [s_code]
  show _ = (s_code (cd, pl, df, tx, kp, rs)).1 ∧ InvC cI cT o (s_code (cd, pl, df, tx, kp, rs)).2 _
  rw [e9]
  exact ⟨rfl, tA, kA, dr, drI, wk, wkI, sw, swI, aT, aI, Xd, hC⟩
set_option maxHeartbeats 4000000 in
set_option maxRecDepth 100000 in
theorem k_X2_place (l : Launch) (D : va_G) (cI cT : ClassId) (w : Wd) (sz : Nat) (o : Nat) (cd : Int32) (pl : Int32) (df : List Int32) (tx : Nat → Option Nat) (kp : List Nat) (rs : Rws) (hwf : WF (cd, pl, df, tx, kp, rs)) (hI : InvC cI cT o (cd, pl, df, tx, kp, rs) w) : wd_Mi l D vwCl (gK D cI cT) yX2_place wsX2_place (wd_rm 0 0 0) [.ref o] w sz (fun r w' => r = (s_place (cd, pl, df, tx, kp, rs)).1 ∧ InvC cI cT o (s_place (cd, pl, df, tx, kp, rs)).2 w') := by
  refine wd_met (cc := cX2_place) (maxL := 1) (ret := (some .int)) (by decide) rfl (Nat.le_of_ble_eq_true rfl) ?_
  intro pg ev sg mi bl mt cde ls C0 hsz hK hW hl
  obtain ⟨hx, hb, hr, hml, hown, hts, hlocks, hnm⟩ := C0
  subst hsz
  have hown : sg.vm.findClass RX2 = some mi.cls := hown
  have hS : va_S (wd_A w sg.heap.size) sg.heap sg.heap [] := va_S.rf
  have hA : ∀ q, sg.heap.size ≤ q → wd_A w sg.heap.size q := fun q h => Or.inr h
  have hl : lv_has ls 1 [(0, .ref o)] := hl
  obtain ⟨tA, kA, dr, drI, wk, wkI, sw, swI, aT, aI, Xd, hC⟩ := hI
  dsimp only at hC
  obtain ⟨Xw, hXw⟩ := hC.2.2.2.2.1
  obtain ⟨Xs, hXs⟩ := hC.2.2.2.2.2.1
  have hXd1 := hC.2.2.2.1.1.2.2.1
  have hdf := hC.2.2.2.1.2
  have hkp : kp.length ≤ 12 := hwf.2.2.1
  have hdl : df.length = Xd.2 := by rw [← hC.2.2.2.1.2, rl_len]
  have hdg : ∀ j, j < df.length → Xd.1 j = lf df j := fun j hj => by rw [← hdf, lf, rl_getD (by omega)]
  refine lv_aload_n hx hb dX2_place_0 rfl (lv_at hl 0 rfl) ?_
  refine wd_get (ci := 2) (v := .int pl) (C := RX2) (T := TX2) (N := 8) hx hb hts (by decide +kernel) hown hK.1 hW hC.1 rfl 7 (by decide) (hts (.fieldLink RX2 40 "CharRows" "lastPlace" "I") (by decide +kernel)) (fun _ h9 => h9) rfl dX2_place_1 ?_
  refine wd_iret hx hb hr hlocks hW hS dX2_place_4 ?_
  have e9 : s_place (cd, pl, df, tx, kp, rs) = (pl, cd, pl, df, tx, kp, rs) := by simp only [s_place]
  show _ = (s_place (cd, pl, df, tx, kp, rs)).1 ∧ InvC cI cT o (s_place (cd, pl, df, tx, kp, rs)).2 _
  rw [e9]
  exact ⟨rfl, tA, kA, dr, drI, wk, wkI, sw, swI, aT, aI, Xd, hC⟩
set_option maxHeartbeats 4000000 in
set_option maxRecDepth 100000 in
theorem k_X2_kept (l : Launch) (D : va_G) (cI cT : ClassId) (w : Wd) (sz : Nat) (o : Nat) (cd : Int32) (pl : Int32) (df : List Int32) (tx : Nat → Option Nat) (kp : List Nat) (rs : Rws) (hwf : WF (cd, pl, df, tx, kp, rs)) (hI : InvC cI cT o (cd, pl, df, tx, kp, rs) w) : wd_Mi l D vwCl (gK D cI cT) yX2_kept wsX2_kept (wd_rm 0 0 0) [.ref o] w sz (fun r w' => r = (s_kept (cd, pl, df, tx, kp, rs)).1 ∧ InvC cI cT o (s_kept (cd, pl, df, tx, kp, rs)).2 w') := by
  refine wd_met (cc := cX2_kept) (maxL := 1) (ret := (some .int)) (by decide) rfl (Nat.le_of_ble_eq_true rfl) ?_
  intro pg ev sg mi bl mt cde ls C0 hsz hK hW hl
  obtain ⟨hx, hb, hr, hml, hown, hts, hlocks, hnm⟩ := C0
  subst hsz
  have hown : sg.vm.findClass RX2 = some mi.cls := hown
  have hS : va_S (wd_A w sg.heap.size) sg.heap sg.heap [] := va_S.rf
  have hA : ∀ q, sg.heap.size ≤ q → wd_A w sg.heap.size q := fun q h => Or.inr h
  have hl : lv_has ls 1 [(0, .ref o)] := hl
  obtain ⟨tA, kA, dr, drI, wk, wkI, sw, swI, aT, aI, Xd, hC⟩ := hI
  dsimp only at hC
  obtain ⟨Xw, hXw⟩ := hC.2.2.2.2.1
  obtain ⟨Xs, hXs⟩ := hC.2.2.2.2.2.1
  have hXd1 := hC.2.2.2.1.1.2.2.1
  have hdf := hC.2.2.2.1.2
  have hkp : kp.length ≤ 12 := hwf.2.2.1
  have hdl : df.length = Xd.2 := by rw [← hC.2.2.2.1.2, rl_len]
  have hdg : ∀ j, j < df.length → Xd.1 j = lf df j := fun j hj => by rw [← hdf, lf, rl_getD (by omega)]
  refine lv_aload_n hx hb dX2_kept_0 rfl (lv_at hl 0 rfl) ?_
  refine wd_get (ci := 2) (v := .int (nI kp.length)) (C := RX2) (T := TX2) (N := 8) hx hb hts (by decide +kernel) hown hK.1 hW hC.1 rfl 2 (by decide) (hts (.fieldLink RX2 18 "CharRows" "keptCount" "I") (by decide +kernel)) (fun _ h9 => h9) rfl dX2_kept_1 ?_
  refine wd_iret hx hb hr hlocks hW hS dX2_kept_4 ?_
  have e9 : s_kept (cd, pl, df, tx, kp, rs) = (nI kp.length, cd, pl, df, tx, kp, rs) := by simp only [s_kept]
  show _ = (s_kept (cd, pl, df, tx, kp, rs)).1 ∧ InvC cI cT o (s_kept (cd, pl, df, tx, kp, rs)).2 _
  rw [e9]
  exact ⟨rfl, tA, kA, dr, drI, wk, wkI, sw, swI, aT, aI, Xd, hC⟩
set_option maxHeartbeats 4000000 in
set_option maxRecDepth 100000 in
theorem k_X2_kind (l : Launch) (D : va_G) (cI cT : ClassId) (w : Wd) (sz : Nat) (o : Nat) (p : Int32) : wd_Mi l D vwCl (gK D cI cT) yX2_kind wsX2_kind (wd_rm 1 0 0) [.ref o, .int p] w sz (fun r w' => r = u_kind p ∧ w' = w) := by
  refine wd_met (cc := cX2_kind) (maxL := 2) (ret := (some .int)) (by decide) rfl (Nat.le_of_ble_eq_true rfl) ?_
  intro pg ev sg mi bl mt cde ls C0 hsz hK hW hl
  obtain ⟨hx, hb, hr, hml, hown, hts, hlocks, hnm⟩ := C0
  subst hsz
  have hown : sg.vm.findClass RX2 = some mi.cls := hown
  have hS : va_S (wd_A w sg.heap.size) sg.heap sg.heap [] := va_S.rf
  have hA : ∀ q, sg.heap.size ≤ q → wd_A w sg.heap.size q := fun q h => Or.inr h
  have hl : lv_has ls 2 [(0, .ref o), (1, .int p)] := hl
  refine lv_iload_n hx hb dX2_kind_0 rfl (lv_at hl 1 rfl) ?_
  refine wd_callSi (As := [.int p]) (rest := []) (c2 := 0) (s2 := 0) ⟨hx, hb, hml, hown, hts⟩ (k_X2_isNoPoint l D cI cT w sg.heap.size p ) (va_cwS 1 hts gX2_kind_X2_isNoPoint rfl rfl rfl (by decide +kernel) ⟨Nat.le_of_ble_eq_true rfl, Nat.le_of_ble_eq_true rfl⟩) gK_ok hK hW hS hA rfl hl.1 rfl (Nat.le_of_ble_eq_true rfl) dX2_kind_1 ⟨Nat.le_of_ble_eq_true rfl, Nat.le_of_ble_eq_true rfl⟩ rfl rfl (fun r_1 w_1 H locs hp_1 hW hz hS => ?_)
  obtain ⟨q_r, q_w⟩ := hp_1
  subst r_1
  subst w_1
  refine lv_if_eq (tgt := 10) hx hb dX2_kind_4 (by decide) (fun c_4 => ?_) (fun c_4 => ?_)
  ·
    have c_4 := j_b0 c_4
    refine lv_iload_n hx hb dX2_kind_10 rfl (lv_at hl 1 rfl) ?_
    refine wd_callSi (As := [.int p]) (rest := []) (c2 := 0) (s2 := 0) ⟨hx, hb, hml, hown, hts⟩ (k_X2_isHigh l D cI cT w H.size p ) (va_cwS 1 hts gX2_kind_X2_isHigh rfl rfl rfl (by decide +kernel) ⟨Nat.le_of_ble_eq_true rfl, Nat.le_of_ble_eq_true rfl⟩) gK_ok hK hW hS hA rfl hl.1 rfl (Nat.le_of_ble_eq_true rfl) dX2_kind_11 ⟨Nat.le_of_ble_eq_true rfl, Nat.le_of_ble_eq_true rfl⟩ rfl rfl (fun r_11 w_11 H locs hp_11 hW hz hS => ?_)
    obtain ⟨q_r, q_w⟩ := hp_11
    subst r_11
    subst w_11
    refine lv_if_eq (tgt := 19) hx hb dX2_kind_14 (by decide) (fun c_14 => ?_) (fun c_14 => ?_)
    ·
      have c_14 := j_b0 c_14
      refine lv_iload_n hx hb dX2_kind_19 rfl (lv_at hl 1 rfl) ?_
      refine wd_callSi (As := [.int p]) (rest := []) (c2 := 0) (s2 := 0) ⟨hx, hb, hml, hown, hts⟩ (k_X2_isLow l D cI cT w H.size p ) (va_cwS 1 hts gX2_kind_X2_isLow rfl rfl rfl (by decide +kernel) ⟨Nat.le_of_ble_eq_true rfl, Nat.le_of_ble_eq_true rfl⟩) gK_ok hK hW hS hA rfl hl.1 rfl (Nat.le_of_ble_eq_true rfl) dX2_kind_20 ⟨Nat.le_of_ble_eq_true rfl, Nat.le_of_ble_eq_true rfl⟩ rfl rfl (fun r_20 w_20 H locs hp_20 hW hz hS => ?_)
      obtain ⟨q_r, q_w⟩ := hp_20
      subst r_20
      subst w_20
      refine lv_if_eq (tgt := 28) hx hb dX2_kind_23 (by decide) (fun c_23 => ?_) (fun c_23 => ?_)
      ·
        have c_23 := j_b0 c_23
        refine lv_iload_n hx hb dX2_kind_28 rfl (lv_at hl 1 rfl) ?_
        refine lv_bipush (v := 48) hx hb dX2_kind_29 (by decide) ?_
        refine lv_icmp_lt (tgt := 42) hx hb dX2_kind_31 (by decide) (fun c_31 => ?_) (fun c_31 => ?_)
        ·
          refine lv_iload_n hx hb dX2_kind_42 rfl (lv_at hl 1 rfl) ?_
          refine wd_callSi (As := [.int p]) (rest := []) (c2 := 0) (s2 := 0) ⟨hx, hb, hml, hown, hts⟩ (k_X2_greater l D cI cT w H.size p ) (va_cwS 1 hts gX2_kind_X2_greater rfl rfl rfl (by decide +kernel) ⟨Nat.le_of_ble_eq_true rfl, Nat.le_of_ble_eq_true rfl⟩) gK_ok hK hW hS hA rfl hl.1 rfl (Nat.le_of_ble_eq_true rfl) dX2_kind_43 ⟨Nat.le_of_ble_eq_true rfl, Nat.le_of_ble_eq_true rfl⟩ rfl rfl (fun r_43 w_43 H locs hp_43 hW hz hS => ?_)
          obtain ⟨q_r, q_w⟩ := hp_43
          subst r_43
          subst w_43
          refine lv_iload_n hx hb dX2_kind_46 rfl (lv_at hl 1 rfl) ?_
          refine lv_icmp_ne (tgt := 58) hx hb dX2_kind_47 (by decide) (fun c_47 => ?_) (fun c_47 => ?_)
          ·
            refine lv_iconst (v := 3) hx hb dX2_kind_58 (by decide) ?_
            refine wd_iret hx hb hr hlocks hW hS dX2_kind_59 ?_
            exact ⟨by rw [u_kind, if_neg c_4, if_neg c_14, if_neg c_23, if_neg (by simp only [i_le]; exact fun q => q.1 c_31), if_pos (Or.inl c_47)], rfl⟩
          ·
            refine lv_iload_n hx hb dX2_kind_50 rfl (lv_at hl 1 rfl) ?_
            refine wd_callSi (As := [.int p]) (rest := []) (c2 := 0) (s2 := 0) ⟨hx, hb, hml, hown, hts⟩ (k_X2_lesser l D cI cT w H.size p ) (va_cwS 1 hts gX2_kind_X2_lesser rfl rfl rfl (by decide +kernel) ⟨Nat.le_of_ble_eq_true rfl, Nat.le_of_ble_eq_true rfl⟩) gK_ok hK hW hS hA rfl hl.1 rfl (Nat.le_of_ble_eq_true rfl) dX2_kind_51 ⟨Nat.le_of_ble_eq_true rfl, Nat.le_of_ble_eq_true rfl⟩ rfl rfl (fun r_51 w_51 H locs hp_51 hW hz hS => ?_)
            obtain ⟨q_r, q_w⟩ := hp_51
            subst r_51
            subst w_51
            refine lv_iload_n hx hb dX2_kind_54 rfl (lv_at hl 1 rfl) ?_
            refine lv_icmp_eq (tgt := 60) hx hb dX2_kind_55 (by decide) (fun c_55 => ?_) (fun c_55 => ?_)
            ·
              refine lv_iload_n hx hb dX2_kind_60 rfl (lv_at hl 1 rfl) ?_
              refine lv_bipush (v := 9) hx hb dX2_kind_61 (by decide) ?_
              refine lv_icmp_lt (tgt := 72) hx hb dX2_kind_63 (by decide) (fun c_63 => ?_) (fun c_63 => ?_)
              ·
                refine lv_iload_n hx hb dX2_kind_72 rfl (lv_at hl 1 rfl) ?_
                refine lv_bipush (v := 32) hx hb dX2_kind_73 (by decide) ?_
                refine lv_icmp_eq (tgt := 85) hx hb dX2_kind_75 (by decide) (fun c_75 => ?_) (fun c_75 => ?_)
                ·
                  refine lv_iconst (v := 4) hx hb dX2_kind_85 (by decide) ?_
                  refine wd_iret hx hb hr hlocks hW hS dX2_kind_86 ?_
                  exact ⟨by rw [u_kind, if_neg c_4, if_neg c_14, if_neg c_23, if_neg (by simp only [i_le]; exact fun q => q.1 c_31), if_neg (fun q => q.elim (fun z => z c_47) (fun z => z c_55)), if_pos (by simp only [i_le]; exact Or.inr (Or.inl c_75))], rfl⟩
                ·
                  refine lv_iload_n hx hb dX2_kind_78 rfl (lv_at hl 1 rfl) ?_
                  refine lv_sipush (v := 160) hx hb dX2_kind_79 (by decide) ?_
                  refine lv_icmp_ne (tgt := 87) hx hb dX2_kind_82 (by decide) (fun c_82 => ?_) (fun c_82 => ?_)
                  ·
                    refine lv_iload_n hx hb dX2_kind_87 rfl (lv_at hl 1 rfl) ?_
                    refine lv_ldc (v := 65536) hx hb hown (hts (.constant RX2 173 65536) (by decide +kernel)) dX2_kind_88 ?_
                    refine lv_icmp_lt (tgt := 97) hx hb dX2_kind_90 (by decide) (fun c_90 => ?_) (fun c_90 => ?_)
                    ·
                      refine lv_bipush (v := 6) hx hb dX2_kind_97 (by decide) ?_
                      refine wd_iret hx hb hr hlocks hW hS dX2_kind_99 ?_
                      exact ⟨by rw [u_kind, if_neg c_4, if_neg c_14, if_neg c_23, if_neg (by simp only [i_le]; exact fun q => q.1 c_31), if_neg (fun q => q.elim (fun z => z c_47) (fun z => z c_55)), if_neg (by simp only [i_le]; exact fun q => q.elim (fun z => z.1 c_63) (fun z => z.elim c_75 c_82)), if_neg (by simp only [i_le]; exact fun z => z c_90)], rfl⟩
                    ·
                      refine lv_iconst (v := 5) hx hb dX2_kind_93 (by decide) ?_
                      refine lv_goto (tgt := 99) hx hb dX2_kind_94 (by decide) ?_
                      refine wd_iret hx hb hr hlocks hW hS dX2_kind_99 ?_
                      exact ⟨by rw [u_kind, if_neg c_4, if_neg c_14, if_neg c_23, if_neg (by simp only [i_le]; exact fun q => q.1 c_31), if_neg (fun q => q.elim (fun z => z c_47) (fun z => z c_55)), if_neg (by simp only [i_le]; exact fun q => q.elim (fun z => z.1 c_63) (fun z => z.elim c_75 c_82)), if_pos (by simp only [i_le]; exact c_90)], rfl⟩
                  ·
                    refine lv_iconst (v := 4) hx hb dX2_kind_85 (by decide) ?_
                    refine wd_iret hx hb hr hlocks hW hS dX2_kind_86 ?_
                    exact ⟨by rw [u_kind, if_neg c_4, if_neg c_14, if_neg c_23, if_neg (by simp only [i_le]; exact fun q => q.1 c_31), if_neg (fun q => q.elim (fun z => z c_47) (fun z => z c_55)), if_pos (by simp only [i_le]; exact Or.inr (Or.inr c_82))], rfl⟩
              ·
                refine lv_iload_n hx hb dX2_kind_66 rfl (lv_at hl 1 rfl) ?_
                refine lv_bipush (v := 13) hx hb dX2_kind_67 (by decide) ?_
                refine lv_icmp_le (tgt := 85) hx hb dX2_kind_69 (by decide) (fun c_69 => ?_) (fun c_69 => ?_)
                ·
                  simp only [i_le, Decidable.not_not] at c_69
                  refine lv_iconst (v := 4) hx hb dX2_kind_85 (by decide) ?_
                  refine wd_iret hx hb hr hlocks hW hS dX2_kind_86 ?_
                  exact ⟨by rw [u_kind, if_neg c_4, if_neg c_14, if_neg c_23, if_neg (by simp only [i_le]; exact fun q => q.1 c_31), if_neg (fun q => q.elim (fun z => z c_47) (fun z => z c_55)), if_pos (by simp only [i_le]; exact Or.inl ⟨c_63, c_69⟩)], rfl⟩
                ·
                  simp only [i_le, Decidable.not_not] at c_69
                  refine lv_iload_n hx hb dX2_kind_72 rfl (lv_at hl 1 rfl) ?_
                  refine lv_bipush (v := 32) hx hb dX2_kind_73 (by decide) ?_
                  refine lv_icmp_eq (tgt := 85) hx hb dX2_kind_75 (by decide) (fun c_75 => ?_) (fun c_75 => ?_)
                  ·
                    refine lv_iconst (v := 4) hx hb dX2_kind_85 (by decide) ?_
                    refine wd_iret hx hb hr hlocks hW hS dX2_kind_86 ?_
                    exact ⟨by rw [u_kind, if_neg c_4, if_neg c_14, if_neg c_23, if_neg (by simp only [i_le]; exact fun q => q.1 c_31), if_neg (fun q => q.elim (fun z => z c_47) (fun z => z c_55)), if_pos (by simp only [i_le]; exact Or.inr (Or.inl c_75))], rfl⟩
                  ·
                    refine lv_iload_n hx hb dX2_kind_78 rfl (lv_at hl 1 rfl) ?_
                    refine lv_sipush (v := 160) hx hb dX2_kind_79 (by decide) ?_
                    refine lv_icmp_ne (tgt := 87) hx hb dX2_kind_82 (by decide) (fun c_82 => ?_) (fun c_82 => ?_)
                    ·
                      refine lv_iload_n hx hb dX2_kind_87 rfl (lv_at hl 1 rfl) ?_
                      refine lv_ldc (v := 65536) hx hb hown (hts (.constant RX2 173 65536) (by decide +kernel)) dX2_kind_88 ?_
                      refine lv_icmp_lt (tgt := 97) hx hb dX2_kind_90 (by decide) (fun c_90 => ?_) (fun c_90 => ?_)
                      ·
                        refine lv_bipush (v := 6) hx hb dX2_kind_97 (by decide) ?_
                        refine wd_iret hx hb hr hlocks hW hS dX2_kind_99 ?_
                        exact ⟨by rw [u_kind, if_neg c_4, if_neg c_14, if_neg c_23, if_neg (by simp only [i_le]; exact fun q => q.1 c_31), if_neg (fun q => q.elim (fun z => z c_47) (fun z => z c_55)), if_neg (by simp only [i_le]; exact fun q => q.elim (fun z => z.2 c_69) (fun z => z.elim c_75 c_82)), if_neg (by simp only [i_le]; exact fun z => z c_90)], rfl⟩
                      ·
                        refine lv_iconst (v := 5) hx hb dX2_kind_93 (by decide) ?_
                        refine lv_goto (tgt := 99) hx hb dX2_kind_94 (by decide) ?_
                        refine wd_iret hx hb hr hlocks hW hS dX2_kind_99 ?_
                        exact ⟨by rw [u_kind, if_neg c_4, if_neg c_14, if_neg c_23, if_neg (by simp only [i_le]; exact fun q => q.1 c_31), if_neg (fun q => q.elim (fun z => z c_47) (fun z => z c_55)), if_neg (by simp only [i_le]; exact fun q => q.elim (fun z => z.2 c_69) (fun z => z.elim c_75 c_82)), if_pos (by simp only [i_le]; exact c_90)], rfl⟩
                    ·
                      refine lv_iconst (v := 4) hx hb dX2_kind_85 (by decide) ?_
                      refine wd_iret hx hb hr hlocks hW hS dX2_kind_86 ?_
                      exact ⟨by rw [u_kind, if_neg c_4, if_neg c_14, if_neg c_23, if_neg (by simp only [i_le]; exact fun q => q.1 c_31), if_neg (fun q => q.elim (fun z => z c_47) (fun z => z c_55)), if_pos (by simp only [i_le]; exact Or.inr (Or.inr c_82))], rfl⟩
            ·
              refine lv_iconst (v := 3) hx hb dX2_kind_58 (by decide) ?_
              refine wd_iret hx hb hr hlocks hW hS dX2_kind_59 ?_
              exact ⟨by rw [u_kind, if_neg c_4, if_neg c_14, if_neg c_23, if_neg (by simp only [i_le]; exact fun q => q.1 c_31), if_pos (Or.inr c_55)], rfl⟩
        ·
          refine lv_iload_n hx hb dX2_kind_34 rfl (lv_at hl 1 rfl) ?_
          refine lv_bipush (v := 57) hx hb dX2_kind_35 (by decide) ?_
          refine lv_icmp_gt (tgt := 42) hx hb dX2_kind_37 (by decide) (fun c_37 => ?_) (fun c_37 => ?_)
          ·
            refine lv_iload_n hx hb dX2_kind_42 rfl (lv_at hl 1 rfl) ?_
            refine wd_callSi (As := [.int p]) (rest := []) (c2 := 0) (s2 := 0) ⟨hx, hb, hml, hown, hts⟩ (k_X2_greater l D cI cT w H.size p ) (va_cwS 1 hts gX2_kind_X2_greater rfl rfl rfl (by decide +kernel) ⟨Nat.le_of_ble_eq_true rfl, Nat.le_of_ble_eq_true rfl⟩) gK_ok hK hW hS hA rfl hl.1 rfl (Nat.le_of_ble_eq_true rfl) dX2_kind_43 ⟨Nat.le_of_ble_eq_true rfl, Nat.le_of_ble_eq_true rfl⟩ rfl rfl (fun r_43 w_43 H locs hp_43 hW hz hS => ?_)
            obtain ⟨q_r, q_w⟩ := hp_43
            subst r_43
            subst w_43
            refine lv_iload_n hx hb dX2_kind_46 rfl (lv_at hl 1 rfl) ?_
            refine lv_icmp_ne (tgt := 58) hx hb dX2_kind_47 (by decide) (fun c_47 => ?_) (fun c_47 => ?_)
            ·
              refine lv_iconst (v := 3) hx hb dX2_kind_58 (by decide) ?_
              refine wd_iret hx hb hr hlocks hW hS dX2_kind_59 ?_
              exact ⟨by rw [u_kind, if_neg c_4, if_neg c_14, if_neg c_23, if_neg (by simp only [i_le]; exact fun q => q.2 c_37), if_pos (Or.inl c_47)], rfl⟩
            ·
              refine lv_iload_n hx hb dX2_kind_50 rfl (lv_at hl 1 rfl) ?_
              refine wd_callSi (As := [.int p]) (rest := []) (c2 := 0) (s2 := 0) ⟨hx, hb, hml, hown, hts⟩ (k_X2_lesser l D cI cT w H.size p ) (va_cwS 1 hts gX2_kind_X2_lesser rfl rfl rfl (by decide +kernel) ⟨Nat.le_of_ble_eq_true rfl, Nat.le_of_ble_eq_true rfl⟩) gK_ok hK hW hS hA rfl hl.1 rfl (Nat.le_of_ble_eq_true rfl) dX2_kind_51 ⟨Nat.le_of_ble_eq_true rfl, Nat.le_of_ble_eq_true rfl⟩ rfl rfl (fun r_51 w_51 H locs hp_51 hW hz hS => ?_)
              obtain ⟨q_r, q_w⟩ := hp_51
              subst r_51
              subst w_51
              refine lv_iload_n hx hb dX2_kind_54 rfl (lv_at hl 1 rfl) ?_
              refine lv_icmp_eq (tgt := 60) hx hb dX2_kind_55 (by decide) (fun c_55 => ?_) (fun c_55 => ?_)
              ·
                refine lv_iload_n hx hb dX2_kind_60 rfl (lv_at hl 1 rfl) ?_
                refine lv_bipush (v := 9) hx hb dX2_kind_61 (by decide) ?_
                refine lv_icmp_lt (tgt := 72) hx hb dX2_kind_63 (by decide) (fun c_63 => ?_) (fun c_63 => ?_)
                ·
                  refine lv_iload_n hx hb dX2_kind_72 rfl (lv_at hl 1 rfl) ?_
                  refine lv_bipush (v := 32) hx hb dX2_kind_73 (by decide) ?_
                  refine lv_icmp_eq (tgt := 85) hx hb dX2_kind_75 (by decide) (fun c_75 => ?_) (fun c_75 => ?_)
                  ·
                    refine lv_iconst (v := 4) hx hb dX2_kind_85 (by decide) ?_
                    refine wd_iret hx hb hr hlocks hW hS dX2_kind_86 ?_
                    exact ⟨by rw [u_kind, if_neg c_4, if_neg c_14, if_neg c_23, if_neg (by simp only [i_le]; exact fun q => q.2 c_37), if_neg (fun q => q.elim (fun z => z c_47) (fun z => z c_55)), if_pos (by simp only [i_le]; exact Or.inr (Or.inl c_75))], rfl⟩
                  ·
                    refine lv_iload_n hx hb dX2_kind_78 rfl (lv_at hl 1 rfl) ?_
                    refine lv_sipush (v := 160) hx hb dX2_kind_79 (by decide) ?_
                    refine lv_icmp_ne (tgt := 87) hx hb dX2_kind_82 (by decide) (fun c_82 => ?_) (fun c_82 => ?_)
                    ·
                      refine lv_iload_n hx hb dX2_kind_87 rfl (lv_at hl 1 rfl) ?_
                      refine lv_ldc (v := 65536) hx hb hown (hts (.constant RX2 173 65536) (by decide +kernel)) dX2_kind_88 ?_
                      refine lv_icmp_lt (tgt := 97) hx hb dX2_kind_90 (by decide) (fun c_90 => ?_) (fun c_90 => ?_)
                      ·
                        refine lv_bipush (v := 6) hx hb dX2_kind_97 (by decide) ?_
                        refine wd_iret hx hb hr hlocks hW hS dX2_kind_99 ?_
                        exact ⟨by rw [u_kind, if_neg c_4, if_neg c_14, if_neg c_23, if_neg (by simp only [i_le]; exact fun q => q.2 c_37), if_neg (fun q => q.elim (fun z => z c_47) (fun z => z c_55)), if_neg (by simp only [i_le]; exact fun q => q.elim (fun z => z.1 c_63) (fun z => z.elim c_75 c_82)), if_neg (by simp only [i_le]; exact fun z => z c_90)], rfl⟩
                      ·
                        refine lv_iconst (v := 5) hx hb dX2_kind_93 (by decide) ?_
                        refine lv_goto (tgt := 99) hx hb dX2_kind_94 (by decide) ?_
                        refine wd_iret hx hb hr hlocks hW hS dX2_kind_99 ?_
                        exact ⟨by rw [u_kind, if_neg c_4, if_neg c_14, if_neg c_23, if_neg (by simp only [i_le]; exact fun q => q.2 c_37), if_neg (fun q => q.elim (fun z => z c_47) (fun z => z c_55)), if_neg (by simp only [i_le]; exact fun q => q.elim (fun z => z.1 c_63) (fun z => z.elim c_75 c_82)), if_pos (by simp only [i_le]; exact c_90)], rfl⟩
                    ·
                      refine lv_iconst (v := 4) hx hb dX2_kind_85 (by decide) ?_
                      refine wd_iret hx hb hr hlocks hW hS dX2_kind_86 ?_
                      exact ⟨by rw [u_kind, if_neg c_4, if_neg c_14, if_neg c_23, if_neg (by simp only [i_le]; exact fun q => q.2 c_37), if_neg (fun q => q.elim (fun z => z c_47) (fun z => z c_55)), if_pos (by simp only [i_le]; exact Or.inr (Or.inr c_82))], rfl⟩
                ·
                  refine lv_iload_n hx hb dX2_kind_66 rfl (lv_at hl 1 rfl) ?_
                  refine lv_bipush (v := 13) hx hb dX2_kind_67 (by decide) ?_
                  refine lv_icmp_le (tgt := 85) hx hb dX2_kind_69 (by decide) (fun c_69 => ?_) (fun c_69 => ?_)
                  ·
                    simp only [i_le, Decidable.not_not] at c_69
                    refine lv_iconst (v := 4) hx hb dX2_kind_85 (by decide) ?_
                    refine wd_iret hx hb hr hlocks hW hS dX2_kind_86 ?_
                    exact ⟨by rw [u_kind, if_neg c_4, if_neg c_14, if_neg c_23, if_neg (by simp only [i_le]; exact fun q => q.2 c_37), if_neg (fun q => q.elim (fun z => z c_47) (fun z => z c_55)), if_pos (by simp only [i_le]; exact Or.inl ⟨c_63, c_69⟩)], rfl⟩
                  ·
                    simp only [i_le, Decidable.not_not] at c_69
                    refine lv_iload_n hx hb dX2_kind_72 rfl (lv_at hl 1 rfl) ?_
                    refine lv_bipush (v := 32) hx hb dX2_kind_73 (by decide) ?_
                    refine lv_icmp_eq (tgt := 85) hx hb dX2_kind_75 (by decide) (fun c_75 => ?_) (fun c_75 => ?_)
                    ·
                      refine lv_iconst (v := 4) hx hb dX2_kind_85 (by decide) ?_
                      refine wd_iret hx hb hr hlocks hW hS dX2_kind_86 ?_
                      exact ⟨by rw [u_kind, if_neg c_4, if_neg c_14, if_neg c_23, if_neg (by simp only [i_le]; exact fun q => q.2 c_37), if_neg (fun q => q.elim (fun z => z c_47) (fun z => z c_55)), if_pos (by simp only [i_le]; exact Or.inr (Or.inl c_75))], rfl⟩
                    ·
                      refine lv_iload_n hx hb dX2_kind_78 rfl (lv_at hl 1 rfl) ?_
                      refine lv_sipush (v := 160) hx hb dX2_kind_79 (by decide) ?_
                      refine lv_icmp_ne (tgt := 87) hx hb dX2_kind_82 (by decide) (fun c_82 => ?_) (fun c_82 => ?_)
                      ·
                        refine lv_iload_n hx hb dX2_kind_87 rfl (lv_at hl 1 rfl) ?_
                        refine lv_ldc (v := 65536) hx hb hown (hts (.constant RX2 173 65536) (by decide +kernel)) dX2_kind_88 ?_
                        refine lv_icmp_lt (tgt := 97) hx hb dX2_kind_90 (by decide) (fun c_90 => ?_) (fun c_90 => ?_)
                        ·
                          refine lv_bipush (v := 6) hx hb dX2_kind_97 (by decide) ?_
                          refine wd_iret hx hb hr hlocks hW hS dX2_kind_99 ?_
                          exact ⟨by rw [u_kind, if_neg c_4, if_neg c_14, if_neg c_23, if_neg (by simp only [i_le]; exact fun q => q.2 c_37), if_neg (fun q => q.elim (fun z => z c_47) (fun z => z c_55)), if_neg (by simp only [i_le]; exact fun q => q.elim (fun z => z.2 c_69) (fun z => z.elim c_75 c_82)), if_neg (by simp only [i_le]; exact fun z => z c_90)], rfl⟩
                        ·
                          refine lv_iconst (v := 5) hx hb dX2_kind_93 (by decide) ?_
                          refine lv_goto (tgt := 99) hx hb dX2_kind_94 (by decide) ?_
                          refine wd_iret hx hb hr hlocks hW hS dX2_kind_99 ?_
                          exact ⟨by rw [u_kind, if_neg c_4, if_neg c_14, if_neg c_23, if_neg (by simp only [i_le]; exact fun q => q.2 c_37), if_neg (fun q => q.elim (fun z => z c_47) (fun z => z c_55)), if_neg (by simp only [i_le]; exact fun q => q.elim (fun z => z.2 c_69) (fun z => z.elim c_75 c_82)), if_pos (by simp only [i_le]; exact c_90)], rfl⟩
                      ·
                        refine lv_iconst (v := 4) hx hb dX2_kind_85 (by decide) ?_
                        refine wd_iret hx hb hr hlocks hW hS dX2_kind_86 ?_
                        exact ⟨by rw [u_kind, if_neg c_4, if_neg c_14, if_neg c_23, if_neg (by simp only [i_le]; exact fun q => q.2 c_37), if_neg (fun q => q.elim (fun z => z c_47) (fun z => z c_55)), if_pos (by simp only [i_le]; exact Or.inr (Or.inr c_82))], rfl⟩
              ·
                refine lv_iconst (v := 3) hx hb dX2_kind_58 (by decide) ?_
                refine wd_iret hx hb hr hlocks hW hS dX2_kind_59 ?_
                exact ⟨by rw [u_kind, if_neg c_4, if_neg c_14, if_neg c_23, if_neg (by simp only [i_le]; exact fun q => q.2 c_37), if_pos (Or.inr c_55)], rfl⟩
          ·
            refine lv_iconst (v := 2) hx hb dX2_kind_40 (by decide) ?_
            refine wd_iret hx hb hr hlocks hW hS dX2_kind_41 ?_
            exact ⟨by rw [u_kind, if_neg c_4, if_neg c_14, if_neg c_23, if_pos (by simp only [i_le]; exact ⟨c_31, c_37⟩)], rfl⟩
      ·
        have c_23 := j_bn c_23
        refine lv_iconst (v := 1) hx hb dX2_kind_26 (by decide) ?_
        refine wd_iret hx hb hr hlocks hW hS dX2_kind_27 ?_
        exact ⟨by rw [u_kind, if_neg c_4, if_neg c_14, if_pos c_23], rfl⟩
    ·
      have c_14 := j_bn c_14
      refine lv_iconst (v := 0) hx hb dX2_kind_17 (by decide) ?_
      refine wd_iret hx hb hr hlocks hW hS dX2_kind_18 ?_
      exact ⟨by rw [u_kind, if_neg c_4, if_pos c_14], rfl⟩
  ·
    have c_4 := j_bn c_4
    refine lv_ldc (v := (-2000000001)) hx hb hown (hts (.constant RX2 47 (-2000000001)) (by decide +kernel)) dX2_kind_7 ?_
    refine wd_iret hx hb hr hlocks hW hS dX2_kind_9 ?_
    exact ⟨by rw [u_kind, if_pos c_4], rfl⟩
set_option maxHeartbeats 4000000 in
set_option maxRecDepth 100000 in
theorem k_X2_fresh (l : Launch) (D : va_G) (cI cT : ClassId) (w : Wd) (sz : Nat) (o : Nat) (cd : Int32) (pl : Int32) (df : List Int32) (tx : Nat → Option Nat) (kp : List Nat) (rs : Rws) (hwf : WF (cd, pl, df, tx, kp, rs)) (hI : InvC cI cT o (cd, pl, df, tx, kp, rs) w) : wd_Mi l D vwCl (gK D cI cT) yX2_fresh wsX2_fresh (wd_rm 1 0 0) [.ref o] w sz (fun r w' => r = (s_fresh (cd, pl, df, tx, kp, rs)).1 ∧ InvC cI cT o (s_fresh (cd, pl, df, tx, kp, rs)).2 w') := by
  refine wd_met (cc := cX2_fresh) (maxL := 2) (ret := (some .int)) (by decide) rfl (Nat.le_of_ble_eq_true rfl) ?_
  intro pg ev sg mi bl mt cde ls C0 hsz hK hW hl
  obtain ⟨hx, hb, hr, hml, hown, hts, hlocks, hnm⟩ := C0
  subst hsz
  have hown : sg.vm.findClass RX2 = some mi.cls := hown
  have hS : va_S (wd_A w sg.heap.size) sg.heap sg.heap [] := va_S.rf
  have hA : ∀ q, sg.heap.size ≤ q → wd_A w sg.heap.size q := fun q h => Or.inr h
  have hl : lv_has ls 2 [(0, .ref o)] := hl
  obtain ⟨tA, kA, dr, drI, wk, wkI, sw, swI, aT, aI, Xd, hC⟩ := hI
  dsimp only at hC
  obtain ⟨Xw, hXw⟩ := hC.2.2.2.2.1
  obtain ⟨Xs, hXs⟩ := hC.2.2.2.2.2.1
  have hXd1 := hC.2.2.2.1.1.2.2.1
  have hdf := hC.2.2.2.1.2
  have hkp : kp.length ≤ 12 := hwf.2.2.1
  have hdl : df.length = Xd.2 := by rw [← hC.2.2.2.1.2, rl_len]
  have hdg : ∀ j, j < df.length → Xd.1 j = lf df j := fun j hj => by rw [← hdf, lf, rl_getD (by omega)]
  refine lv_aload_n hx hb dX2_fresh_0 rfl (lv_at hl 0 rfl) ?_
  refine wd_get (ci := 2) (v := .ref dr) (C := RX2) (T := TX2) (N := 8) hx hb hts (by decide +kernel) hown hK.1 hW hC.1 rfl 3 (by decide) (hts (.fieldLink RX2 27 "CharRows" "draft" "LCharRows$Row;") (by decide +kernel)) (fun _ h9 => h9) rfl dX2_fresh_1 ?_
  refine wd_get (ci := 0) (v := .int (nI Xd.2)) (C := RX0) (T := TX0) (N := 2) hx hb hts (by decide +kernel) hown hK.1 hW hC.2.2.2.1.1.1 rfl 1 (by decide) (hts (.fieldLink RX2 48 "CharRows$Row" "count" "I") (by decide +kernel)) (fun _ h9 => h9) rfl dX2_fresh_4 ?_
  refine lv_istore_n (lv' := [(1, .int (nI Xd.2)), (0, .ref o)]) hx hb dX2_fresh_7 rfl hl (by decide) rfl (fun ls hl => ?_)
  refine lv_aload_n hx hb dX2_fresh_8 rfl (lv_at hl 1 rfl) ?_
  refine wd_get (ci := 2) (v := .ref dr) (C := RX2) (T := TX2) (N := 8) hx hb hts (by decide +kernel) hown hK.1 hW hC.1 rfl 3 (by decide) (hts (.fieldLink RX2 27 "CharRows" "draft" "LCharRows$Row;") (by decide +kernel)) (fun _ h9 => h9) rfl dX2_fresh_9 ?_
  refine wd_callVv (As := []) (rest := []) (c2 := 0) (s2 := 0) ⟨hx, hb, hml, hown, hts⟩ (k_X0_empty l D cI cT w sg.heap.size dr drI 60 Xd hC.2.2.2.1.1) (cwV 0 hts gX2_fresh_X0_empty rfl rfl rfl (by decide +kernel) ⟨Nat.le_of_ble_eq_true rfl, Nat.le_of_ble_eq_true rfl⟩) gK_ok hK hW (wd_recv (ci := 0) hK.1 hW rfl hC.2.2.2.1.1.1) hS hA rfl hl.1 rfl (Nat.le_of_ble_eq_true rfl) dX2_fresh_12 ⟨Nat.le_of_ble_eq_true rfl, Nat.le_of_ble_eq_true rfl⟩ rfl rfl (fun w_12 H locs hp_12 hW hz hS => ?_)
  subst w_12
  have hC := hC.draft (r_nil Xd) (Nat.zero_le _)
  refine lv_iload_n hx hb dX2_fresh_15 rfl (lv_at hl 0 rfl) ?_
  refine wd_iret hx hb hr hlocks hW hS dX2_fresh_16 ?_
  have e9 : s_fresh (cd, pl, df, tx, kp, rs) = (nI Xd.2, cd, pl, (rl (r_nil Xd)), tx, kp, rs) := by simp only [s_fresh]; rw [hdl]; rfl
  show _ = (s_fresh (cd, pl, df, tx, kp, rs)).1 ∧ InvC cI cT o (s_fresh (cd, pl, df, tx, kp, rs)).2 _
  rw [e9]
  exact ⟨rfl, tA, kA, dr, drI, wk, wkI, sw, swI, aT, aI, (r_nil Xd), hC⟩
set_option maxHeartbeats 4000000 in
set_option maxRecDepth 100000 in
theorem k_X2_sort (l : Launch) (D : va_G) (cI cT : ClassId) (w : Wd) (sz : Nat) (o : Nat) (cd : Int32) (pl : Int32) (df : List Int32) (tx : Nat → Option Nat) (kp : List Nat) (rs : Rws) (t : Int32) (hwf : WF (cd, pl, df, tx, kp, rs)) (hI : InvC cI cT o (cd, pl, df, tx, kp, rs) w) : wd_Mi l D vwCl (gK D cI cT) yX2_sort wsX2_sort (wd_rm 1 0 0) [.ref o, .int t] w sz (fun r w' => r = (s_sort (cd, pl, df, tx, kp, rs) t).1 ∧ InvC cI cT o (s_sort (cd, pl, df, tx, kp, rs) t).2 w') := by
  refine wd_met (cc := cX2_sort) (maxL := 2) (ret := (some .int)) (by decide) rfl (Nat.le_of_ble_eq_true rfl) ?_
  intro pg ev sg mi bl mt cde ls C0 hsz hK hW hl
  obtain ⟨hx, hb, hr, hml, hown, hts, hlocks, hnm⟩ := C0
  subst hsz
  have hown : sg.vm.findClass RX2 = some mi.cls := hown
  have hS : va_S (wd_A w sg.heap.size) sg.heap sg.heap [] := va_S.rf
  have hA : ∀ q, sg.heap.size ≤ q → wd_A w sg.heap.size q := fun q h => Or.inr h
  have hl : lv_has ls 2 [(0, .ref o), (1, .int t)] := hl
  obtain ⟨tA, kA, dr, drI, wk, wkI, sw, swI, aT, aI, Xd, hC⟩ := hI
  dsimp only at hC
  obtain ⟨Xw, hXw⟩ := hC.2.2.2.2.1
  obtain ⟨Xs, hXs⟩ := hC.2.2.2.2.2.1
  have hXd1 := hC.2.2.2.1.1.2.2.1
  have hdf := hC.2.2.2.1.2
  have hkp : kp.length ≤ 12 := hwf.2.2.1
  have hdl : df.length = Xd.2 := by rw [← hC.2.2.2.1.2, rl_len]
  have hdg : ∀ j, j < df.length → Xd.1 j = lf df j := fun j hj => by rw [← hdf, lf, rl_getD (by omega)]
  refine lv_iload_n hx hb dX2_sort_0 rfl (lv_at hl 1 rfl) ?_
  refine wd_callSi (As := [.int t]) (rest := []) (c2 := 0) (s2 := 0) ⟨hx, hb, hml, hown, hts⟩ (k_X2_isNoText l D cI cT w sg.heap.size t ) (va_cwS 1 hts gX2_sort_X2_isNoText rfl rfl rfl (by decide +kernel) ⟨Nat.le_of_ble_eq_true rfl, Nat.le_of_ble_eq_true rfl⟩) gK_ok hK hW hS hA rfl hl.1 rfl (Nat.le_of_ble_eq_true rfl) dX2_sort_1 ⟨Nat.le_of_ble_eq_true rfl, Nat.le_of_ble_eq_true rfl⟩ rfl rfl (fun r_1 w_1 H locs hp_1 hW hz hS => ?_)
  obtain ⟨q_r, q_w⟩ := hp_1
  subst r_1
  subst w_1
  refine lv_if_eq (tgt := 10) hx hb dX2_sort_4 (by decide) (fun c_4 => ?_) (fun c_4 => ?_)
  ·
    have c_4 := j_b0 c_4
    obtain ⟨tN, htN, htE⟩ := nt_spec c_4
    subst htE
    have hcl_t : (nI tN).toNatClampNeg = tN := nI_clamp (by omega)
    refine lv_aload_n hx hb dX2_sort_10 rfl (lv_at hl 0 rfl) ?_
    refine wd_get (ci := 2) (v := .ref tA) (C := RX2) (T := TX2) (N := 8) hx hb hts (by decide +kernel) hown hK.1 hW hC.1 rfl 0 (by decide) (hts (.fieldLink RX2 11 "CharRows" "texts" "[LCharRows$Text;") (by decide +kernel)) (fun _ h9 => h9) rfl dX2_sort_11 ?_
    refine lv_iload_n hx hb dX2_sort_14 rfl (lv_at hl 1 rfl) ?_
    refine wd_aldq hx hb hK.1 hW 1 hC.2.1 rfl (vp_in_nI (by omega) (by omega)) dX2_sort_15 ?_
    rw [nI_clamp (by omega)]
    cases htx_15 : tx tN with
    | none =>
      refine wd_topR (y := .null) (by simp [htx_15, va_rf]) ?_
      refine wd_callSi (As := [.null]) (rest := []) (c2 := 0) (s2 := 0) ⟨hx, hb, hml, hown, hts⟩ (k_X2_sortOfN l D cI cT w H.size  ) (va_cwS 1 hts gX2_sort_X2_sortOf rfl rfl rfl (by decide +kernel) ⟨Nat.le_of_ble_eq_true rfl, Nat.le_of_ble_eq_true rfl⟩) gK_ok hK hW hS hA rfl hl.1 rfl (Nat.le_of_ble_eq_true rfl) dX2_sort_16 ⟨Nat.le_of_ble_eq_true rfl, Nat.le_of_ble_eq_true rfl⟩ rfl rfl (fun r_16 w_16 H locs hp_16 hW hz hS => ?_)
      obtain ⟨q_r, q_w⟩ := hp_16
      subst r_16
      subst w_16
      refine wd_iret hx hb hr hlocks hW hS dX2_sort_19 ?_
      have e9 : s_sort (cd, pl, df, tx, kp, rs) (nI tN) = ((-1), cd, pl, df, tx, kp, rs) := by simp only [s_sort, if_neg c_4, u_srt, hcl_t, htx_15]
      show _ = (s_sort (cd, pl, df, tx, kp, rs) (nI tN)).1 ∧ InvC cI cT o (s_sort (cd, pl, df, tx, kp, rs) (nI tN)).2 _
      rw [e9]
      exact ⟨rfl, tA, kA, dr, drI, wk, wkI, sw, swI, aT, aI, Xd, hC⟩
    | some r_15 =>
      refine wd_topR (y := .ref (aT r_15)) (by simp [htx_15, va_rf]) ?_
      have hl_15 : live tx kp r_15 := Or.inl ⟨_, htx_15⟩
      have hok_15 : rOK (rs r_15) := (hwf.2.2.2.1 r_15 hl_15).2
      have hlen_15 := hok_15.len
      refine wd_callSi (As := [.ref (aT r_15)]) (rest := []) (c2 := 0) (s2 := 0) ⟨hx, hb, hml, hown, hts⟩ (k_X2_sortOf l D cI cT w H.size (aT r_15) (aI r_15) ((rs r_15).1) ((rs r_15).2.length) (lf (rs r_15).2) (⟨(hC.2.2.2.2.2.2.2.1 r_15 hl_15).1, (hC.2.2.2.2.2.2.2.1 r_15 hl_15).2.1, by omega⟩)) (va_cwS 1 hts gX2_sort_X2_sortOf rfl rfl rfl (by decide +kernel) ⟨Nat.le_of_ble_eq_true rfl, Nat.le_of_ble_eq_true rfl⟩) gK_ok hK hW hS hA rfl hl.1 rfl (Nat.le_of_ble_eq_true rfl) dX2_sort_16 ⟨Nat.le_of_ble_eq_true rfl, Nat.le_of_ble_eq_true rfl⟩ rfl rfl (fun r_16 w_16 H locs hp_16 hW hz hS => ?_)
      obtain ⟨q_r, q_w⟩ := hp_16
      subst r_16
      subst w_16
      refine wd_iret hx hb hr hlocks hW hS dX2_sort_19 ?_
      have e9 : s_sort (cd, pl, df, tx, kp, rs) (nI tN) = ((rs r_15).1, cd, pl, df, tx, kp, rs) := by simp only [s_sort, if_neg c_4, u_srt, hcl_t, htx_15]
      show _ = (s_sort (cd, pl, df, tx, kp, rs) (nI tN)).1 ∧ InvC cI cT o (s_sort (cd, pl, df, tx, kp, rs) (nI tN)).2 _
      rw [e9]
      exact ⟨rfl, tA, kA, dr, drI, wk, wkI, sw, swI, aT, aI, Xd, hC⟩
  ·
    have c_4 := j_bn c_4
    refine lv_ldc (v := (-2000000001)) hx hb hown (hts (.constant RX2 47 (-2000000001)) (by decide +kernel)) dX2_sort_7 ?_
    refine wd_iret hx hb hr hlocks hW hS dX2_sort_9 ?_
    have e9 : s_sort (cd, pl, df, tx, kp, rs) t = ((-2000000001), cd, pl, df, tx, kp, rs) := by simp only [s_sort, if_pos c_4, u_srt]
    show _ = (s_sort (cd, pl, df, tx, kp, rs) t).1 ∧ InvC cI cT o (s_sort (cd, pl, df, tx, kp, rs) t).2 _
    rw [e9]
    exact ⟨rfl, tA, kA, dr, drI, wk, wkI, sw, swI, aT, aI, Xd, hC⟩
set_option maxHeartbeats 4000000 in
set_option maxRecDepth 100000 in
theorem k_X2_length (l : Launch) (D : va_G) (cI cT : ClassId) (w : Wd) (sz : Nat) (o : Nat) (cd : Int32) (pl : Int32) (df : List Int32) (tx : Nat → Option Nat) (kp : List Nat) (rs : Rws) (t : Int32) (hwf : WF (cd, pl, df, tx, kp, rs)) (hI : InvC cI cT o (cd, pl, df, tx, kp, rs) w) : wd_Mi l D vwCl (gK D cI cT) yX2_length wsX2_length (wd_rm 1 0 0) [.ref o, .int t] w sz (fun r w' => r = (s_length (cd, pl, df, tx, kp, rs) t).1 ∧ InvC cI cT o (s_length (cd, pl, df, tx, kp, rs) t).2 w') := by
  refine wd_met (cc := cX2_length) (maxL := 3) (ret := (some .int)) (by decide) rfl (Nat.le_of_ble_eq_true rfl) ?_
  intro pg ev sg mi bl mt cde ls C0 hsz hK hW hl
  obtain ⟨hx, hb, hr, hml, hown, hts, hlocks, hnm⟩ := C0
  subst hsz
  have hown : sg.vm.findClass RX2 = some mi.cls := hown
  have hS : va_S (wd_A w sg.heap.size) sg.heap sg.heap [] := va_S.rf
  have hA : ∀ q, sg.heap.size ≤ q → wd_A w sg.heap.size q := fun q h => Or.inr h
  have hl : lv_has ls 3 [(0, .ref o), (1, .int t)] := hl
  obtain ⟨tA, kA, dr, drI, wk, wkI, sw, swI, aT, aI, Xd, hC⟩ := hI
  dsimp only at hC
  obtain ⟨Xw, hXw⟩ := hC.2.2.2.2.1
  obtain ⟨Xs, hXs⟩ := hC.2.2.2.2.2.1
  have hXd1 := hC.2.2.2.1.1.2.2.1
  have hdf := hC.2.2.2.1.2
  have hkp : kp.length ≤ 12 := hwf.2.2.1
  have hdl : df.length = Xd.2 := by rw [← hC.2.2.2.1.2, rl_len]
  have hdg : ∀ j, j < df.length → Xd.1 j = lf df j := fun j hj => by rw [← hdf, lf, rl_getD (by omega)]
  refine lv_iload_n hx hb dX2_length_0 rfl (lv_at hl 1 rfl) ?_
  refine wd_callSi (As := [.int t]) (rest := []) (c2 := 0) (s2 := 0) ⟨hx, hb, hml, hown, hts⟩ (k_X2_isNoText l D cI cT w sg.heap.size t ) (va_cwS 1 hts gX2_length_X2_isNoText rfl rfl rfl (by decide +kernel) ⟨Nat.le_of_ble_eq_true rfl, Nat.le_of_ble_eq_true rfl⟩) gK_ok hK hW hS hA rfl hl.1 rfl (Nat.le_of_ble_eq_true rfl) dX2_length_1 ⟨Nat.le_of_ble_eq_true rfl, Nat.le_of_ble_eq_true rfl⟩ rfl rfl (fun r_1 w_1 H locs hp_1 hW hz hS => ?_)
  obtain ⟨q_r, q_w⟩ := hp_1
  subst r_1
  subst w_1
  refine lv_if_eq (tgt := 10) hx hb dX2_length_4 (by decide) (fun c_4 => ?_) (fun c_4 => ?_)
  ·
    have c_4 := j_b0 c_4
    obtain ⟨tN, htN, htE⟩ := nt_spec c_4
    subst htE
    have hcl_t : (nI tN).toNatClampNeg = tN := nI_clamp (by omega)
    refine lv_aload_n hx hb dX2_length_10 rfl (lv_at hl 0 rfl) ?_
    refine wd_get (ci := 2) (v := .ref tA) (C := RX2) (T := TX2) (N := 8) hx hb hts (by decide +kernel) hown hK.1 hW hC.1 rfl 0 (by decide) (hts (.fieldLink RX2 11 "CharRows" "texts" "[LCharRows$Text;") (by decide +kernel)) (fun _ h9 => h9) rfl dX2_length_11 ?_
    refine lv_iload_n hx hb dX2_length_14 rfl (lv_at hl 1 rfl) ?_
    refine wd_aldq hx hb hK.1 hW 1 hC.2.1 rfl (vp_in_nI (by omega) (by omega)) dX2_length_15 ?_
    rw [nI_clamp (by omega)]
    cases htx_15 : tx tN with
    | none =>
      refine wd_topR (y := .null) (by simp [htx_15, va_rf]) ?_
      refine lv_astore_nN (lv' := [(2, .null), (0, .ref o), (1, .int (nI tN))]) hx hb dX2_length_16 rfl hl (by decide) rfl (fun ls hl => ?_)
      refine lv_aload_nN hx hb dX2_length_17 rfl (lv_at hl 0 rfl) ?_
      refine lv_ifnonnullN hx hb dX2_length_18 ?_
      refine lv_aload_n hx hb dX2_length_21 rfl (lv_at hl 1 rfl) ?_
      refine lv_iconst (v := 1) hx hb dX2_length_22 (by decide) ?_
      refine wd_callVi (As := [.int 1]) (rest := []) (c2 := 0) (s2 := 0) ⟨hx, hb, hml, hown, hts⟩ (k_X2_refuse l D cI cT w H.size o tA kA (nI kp.length) dr wk sw cd pl 1 hC.1) (cwV 1 hts gX2_length_X2_refuse rfl rfl rfl (by decide +kernel) ⟨Nat.le_of_ble_eq_true rfl, Nat.le_of_ble_eq_true rfl⟩) gK_ok hK hW (wd_recv (ci := 2) hK.1 hW rfl hC.1) hS hA rfl hl.1 rfl (Nat.le_of_ble_eq_true rfl) dX2_length_23 ⟨Nat.le_of_ble_eq_true rfl, Nat.le_of_ble_eq_true rfl⟩ rfl rfl (fun r_23 w_23 H locs hp_23 hW hz hS => ?_)
      obtain ⟨q_r, q_w⟩ := hp_23
      subst r_23
      subst w_23
      have hC := hC.obj 1 pl
      refine wd_iret hx hb hr hlocks hW hS dX2_length_26 ?_
      have e9 : s_length (cd, pl, df, tx, kp, rs) (nI tN) = (0, 1, pl, df, tx, kp, rs) := by simp only [s_length, if_neg c_4, s_w1, s_no, s_yes, hcl_t, htx_15]
      show _ = (s_length (cd, pl, df, tx, kp, rs) (nI tN)).1 ∧ InvC cI cT o (s_length (cd, pl, df, tx, kp, rs) (nI tN)).2 _
      rw [e9]
      exact ⟨rfl, tA, kA, dr, drI, wk, wkI, sw, swI, aT, aI, Xd, hC⟩
    | some r_15 =>
      refine wd_topR (y := .ref (aT r_15)) (by simp [htx_15, va_rf]) ?_
      have hl_15 : live tx kp r_15 := Or.inl ⟨_, htx_15⟩
      have hok_15 : rOK (rs r_15) := (hwf.2.2.2.1 r_15 hl_15).2
      have hlen_15 := hok_15.len
      refine lv_astore_n (lv' := [(2, .ref (aT r_15)), (0, .ref o), (1, .int (nI tN))]) hx hb dX2_length_16 rfl hl (by decide) rfl (fun ls hl => ?_)
      refine lv_aload_n hx hb dX2_length_17 rfl (lv_at hl 0 rfl) ?_
      refine lv_ifnonnull (tgt := 27) hx hb dX2_length_18 (by decide) ?_
      refine lv_aload_n hx hb dX2_length_27 rfl (lv_at hl 1 rfl) ?_
      refine lv_aload_n hx hb dX2_length_28 rfl (lv_at hl 0 rfl) ?_
      refine wd_get (ci := 1) (v := .ref (aI r_15)) (C := RX1) (T := TX1) (N := 2) hx hb hts (by decide +kernel) hown hK.1 hW (hC.2.2.2.2.2.2.2.1 r_15 hl_15).1 rfl 1 (by decide) (hts (.fieldLink RX2 93 "CharRows$Text" "items" "[I") (by decide +kernel)) (fun _ h9 => h9) rfl dX2_length_29 ?_
      refine wd_alen hx hb hK.1 hW 0 (hC.2.2.2.2.2.2.2.1 r_15 hl_15).2.1 rfl dX2_length_32 ?_
      refine wd_callVi (As := [.int (nI ((rs r_15).2.length))]) (rest := []) (c2 := 0) (s2 := 0) ⟨hx, hb, hml, hown, hts⟩ (k_X2_done l D cI cT w H.size o tA kA (nI kp.length) dr wk sw cd pl (nI ((rs r_15).2.length)) hC.1) (cwV 1 hts gX2_length_X2_done rfl rfl rfl (by decide +kernel) ⟨Nat.le_of_ble_eq_true rfl, Nat.le_of_ble_eq_true rfl⟩) gK_ok hK hW (wd_recv (ci := 2) hK.1 hW rfl hC.1) hS hA rfl hl.1 rfl (Nat.le_of_ble_eq_true rfl) dX2_length_33 ⟨Nat.le_of_ble_eq_true rfl, Nat.le_of_ble_eq_true rfl⟩ rfl rfl (fun r_33 w_33 H locs hp_33 hW hz hS => ?_)
      obtain ⟨q_r, q_w⟩ := hp_33
      subst r_33
      subst w_33
      have hC := hC.obj 0 pl
      refine wd_iret hx hb hr hlocks hW hS dX2_length_36 ?_
      have e9 : s_length (cd, pl, df, tx, kp, rs) (nI tN) = (nI ((rs r_15).2.length), 0, pl, df, tx, kp, rs) := by simp only [s_length, if_neg c_4, s_w1, s_no, s_yes, hcl_t, htx_15]
      show _ = (s_length (cd, pl, df, tx, kp, rs) (nI tN)).1 ∧ InvC cI cT o (s_length (cd, pl, df, tx, kp, rs) (nI tN)).2 _
      rw [e9]
      exact ⟨rfl, tA, kA, dr, drI, wk, wkI, sw, swI, aT, aI, Xd, hC⟩
  ·
    have c_4 := j_bn c_4
    refine lv_ldc (v := (-2000000001)) hx hb hown (hts (.constant RX2 47 (-2000000001)) (by decide +kernel)) dX2_length_7 ?_
    refine wd_iret hx hb hr hlocks hW hS dX2_length_9 ?_
    have e9 : s_length (cd, pl, df, tx, kp, rs) t = ((-2000000001), cd, pl, df, tx, kp, rs) := by simp only [s_length, if_pos c_4, s_w1, s_no, s_yes]
    show _ = (s_length (cd, pl, df, tx, kp, rs) t).1 ∧ InvC cI cT o (s_length (cd, pl, df, tx, kp, rs) t).2 _
    rw [e9]
    exact ⟨rfl, tA, kA, dr, drI, wk, wkI, sw, swI, aT, aI, Xd, hC⟩
set_option maxHeartbeats 4000000 in
set_option maxRecDepth 100000 in
theorem k_X2_point (l : Launch) (D : va_G) (cI cT : ClassId) (w : Wd) (sz : Nat) (o : Nat) (cd : Int32) (pl : Int32) (df : List Int32) (tx : Nat → Option Nat) (kp : List Nat) (rs : Rws) (p : Int32) (hwf : WF (cd, pl, df, tx, kp, rs)) (hI : InvC cI cT o (cd, pl, df, tx, kp, rs) w) : wd_Mi l D vwCl (gK D cI cT) yX2_point wsX2_point (wd_rm 2 0 0) [.ref o, .int p] w sz (fun r w' => r = (s_point (cd, pl, df, tx, kp, rs) p).1 ∧ InvC cI cT o (s_point (cd, pl, df, tx, kp, rs) p).2 w') := by
  refine wd_met (cc := cX2_point) (maxL := 2) (ret := (some .int)) (by decide) rfl (Nat.le_of_ble_eq_true rfl) ?_
  intro pg ev sg mi bl mt cde ls C0 hsz hK hW hl
  obtain ⟨hx, hb, hr, hml, hown, hts, hlocks, hnm⟩ := C0
  subst hsz
  have hown : sg.vm.findClass RX2 = some mi.cls := hown
  have hS : va_S (wd_A w sg.heap.size) sg.heap sg.heap [] := va_S.rf
  have hA : ∀ q, sg.heap.size ≤ q → wd_A w sg.heap.size q := fun q h => Or.inr h
  have hl : lv_has ls 2 [(0, .ref o), (1, .int p)] := hl
  obtain ⟨tA, kA, dr, drI, wk, wkI, sw, swI, aT, aI, Xd, hC⟩ := hI
  dsimp only at hC
  obtain ⟨Xw, hXw⟩ := hC.2.2.2.2.1
  obtain ⟨Xs, hXs⟩ := hC.2.2.2.2.2.1
  have hXd1 := hC.2.2.2.1.1.2.2.1
  have hdf := hC.2.2.2.1.2
  have hkp : kp.length ≤ 12 := hwf.2.2.1
  have hdl : df.length = Xd.2 := by rw [← hC.2.2.2.1.2, rl_len]
  have hdg : ∀ j, j < df.length → Xd.1 j = lf df j := fun j hj => by rw [← hdf, lf, rl_getD (by omega)]
  refine lv_iload_n hx hb dX2_point_0 rfl (lv_at hl 1 rfl) ?_
  refine wd_callSi (As := [.int p]) (rest := []) (c2 := 0) (s2 := 0) ⟨hx, hb, hml, hown, hts⟩ (k_X2_isNoPoint l D cI cT w sg.heap.size p ) (va_cwS 1 hts gX2_point_X2_isNoPoint rfl rfl rfl (by decide +kernel) ⟨Nat.le_of_ble_eq_true rfl, Nat.le_of_ble_eq_true rfl⟩) gK_ok hK hW hS hA rfl hl.1 rfl (Nat.le_of_ble_eq_true rfl) dX2_point_1 ⟨Nat.le_of_ble_eq_true rfl, Nat.le_of_ble_eq_true rfl⟩ rfl rfl (fun r_1 w_1 H locs hp_1 hW hz hS => ?_)
  obtain ⟨q_r, q_w⟩ := hp_1
  subst r_1
  subst w_1
  refine lv_if_eq (tgt := 10) hx hb dX2_point_4 (by decide) (fun c_4 => ?_) (fun c_4 => ?_)
  ·
    have c_4 := j_b0 c_4
    have hul := u_units_le p
    refine lv_aload_n hx hb dX2_point_10 rfl (lv_at hl 0 rfl) ?_
    refine wd_get (ci := 2) (v := .ref dr) (C := RX2) (T := TX2) (N := 8) hx hb hts (by decide +kernel) hown hK.1 hW hC.1 rfl 3 (by decide) (hts (.fieldLink RX2 27 "CharRows" "draft" "LCharRows$Row;") (by decide +kernel)) (fun _ h9 => h9) rfl dX2_point_11 ?_
    refine wd_get (ci := 0) (v := .int (nI Xd.2)) (C := RX0) (T := TX0) (N := 2) hx hb hts (by decide +kernel) hown hK.1 hW hC.2.2.2.1.1.1 rfl 1 (by decide) (hts (.fieldLink RX2 48 "CharRows$Row" "count" "I") (by decide +kernel)) (fun _ h9 => h9) rfl dX2_point_14 ?_
    refine lv_iload_n hx hb dX2_point_17 rfl (lv_at hl 1 rfl) ?_
    refine wd_callSi (As := [.int p]) (rest := [.int (nI Xd.2)]) (c2 := 0) (s2 := 0) ⟨hx, hb, hml, hown, hts⟩ (k_X2_unitCount l D cI cT w H.size p ) (va_cwS 1 hts gX2_point_X2_unitCount rfl rfl rfl (by decide +kernel) ⟨Nat.le_of_ble_eq_true rfl, Nat.le_of_ble_eq_true rfl⟩) gK_ok hK hW hS hA rfl hl.1 rfl (Nat.le_of_ble_eq_true rfl) dX2_point_18 ⟨Nat.le_of_ble_eq_true rfl, Nat.le_of_ble_eq_true rfl⟩ rfl rfl (fun r_18 w_18 H locs hp_18 hW hz hS => ?_)
    obtain ⟨q_r, q_w⟩ := hp_18
    subst r_18
    subst w_18
    refine lv_iadd hx hb dX2_point_21 ?_
    refine wd_topE (y := nI (Xd.2 + (u_units p).length)) (by rw [j_uc_eq, nI_add]) ?_
    refine lv_bipush (v := 60) hx hb dX2_point_22 (by decide) ?_
    refine lv_icmp_le (tgt := 34) hx hb dX2_point_24 (by decide) (fun c_24 => ?_) (fun c_24 => ?_)
    ·
      have c_24 : Xd.2 + (u_units p).length ≤ 60 := (nI_leI (by omega) (by omega)).mp (show (nI (Xd.2 + (u_units p).length) ≤ nI 60) from c_24)
      refine lv_aload_n hx hb dX2_point_34 rfl (lv_at hl 0 rfl) ?_
      refine wd_get (ci := 2) (v := .ref dr) (C := RX2) (T := TX2) (N := 8) hx hb hts (by decide +kernel) hown hK.1 hW hC.1 rfl 3 (by decide) (hts (.fieldLink RX2 27 "CharRows" "draft" "LCharRows$Row;") (by decide +kernel)) (fun _ h9 => h9) rfl dX2_point_35 ?_
      refine lv_iload_n hx hb dX2_point_38 rfl (lv_at hl 1 rfl) ?_
      refine wd_callVv (As := [.int p]) (rest := []) (c2 := 0) (s2 := 0) ⟨hx, hb, hml, hown, hts⟩ (k_X0_addUnitsOf l D cI cT w H.size dr drI 60 Xd p hC.2.2.2.1.1) (cwV 1 hts gX2_point_X0_addUnitsOf rfl rfl rfl (by decide +kernel) ⟨Nat.le_of_ble_eq_true rfl, Nat.le_of_ble_eq_true rfl⟩) gK_ok hK hW (wd_recv (ci := 0) hK.1 hW rfl hC.2.2.2.1.1.1) hS hA rfl hl.1 rfl (Nat.le_of_ble_eq_true rfl) dX2_point_39 ⟨Nat.le_of_ble_eq_true rfl, Nat.le_of_ble_eq_true rfl⟩ rfl rfl (fun w_39 H locs hp_39 hW hz hS => ?_)
      subst w_39
      have hC := hC.draft (r_uni 60 p Xd) (r_uni_le hC.2.2.2.1.1.2.2.1)
      refine lv_aload_n hx hb dX2_point_42 rfl (lv_at hl 0 rfl) ?_
      refine lv_aload_n hx hb dX2_point_43 rfl (lv_at hl 0 rfl) ?_
      refine wd_get (ci := 2) (v := .ref dr) (C := RX2) (T := TX2) (N := 8) hx hb hts (by decide +kernel) hown hK.1 hW hC.1 rfl 3 (by decide) (hts (.fieldLink RX2 27 "CharRows" "draft" "LCharRows$Row;") (by decide +kernel)) (fun _ h9 => h9) rfl dX2_point_44 ?_
      refine wd_get (ci := 0) (v := .int (nI ((r_uni 60 p Xd).2))) (C := RX0) (T := TX0) (N := 2) hx hb hts (by decide +kernel) hown hK.1 hW hC.2.2.2.1.1.1 rfl 1 (by decide) (hts (.fieldLink RX2 48 "CharRows$Row" "count" "I") (by decide +kernel)) (fun _ h9 => h9) rfl dX2_point_47 ?_
      refine wd_callVi (As := [.int (nI ((r_uni 60 p Xd).2))]) (rest := []) (c2 := 0) (s2 := 0) ⟨hx, hb, hml, hown, hts⟩ (k_X2_done l D cI cT (rowSet w dr drI cI 60 (r_uni 60 p Xd)) H.size o tA kA (nI kp.length) dr wk sw cd pl (nI ((r_uni 60 p Xd).2)) hC.1) (cwV 1 hts gX2_point_X2_done rfl rfl rfl (by decide +kernel) ⟨Nat.le_of_ble_eq_true rfl, Nat.le_of_ble_eq_true rfl⟩) gK_ok hK hW (wd_recv (ci := 2) hK.1 hW rfl hC.1) hS hA rfl hl.1 rfl (Nat.le_of_ble_eq_true rfl) dX2_point_50 ⟨Nat.le_of_ble_eq_true rfl, Nat.le_of_ble_eq_true rfl⟩ rfl rfl (fun r_50 w_50 H locs hp_50 hW hz hS => ?_)
      obtain ⟨q_r, q_w⟩ := hp_50
      subst r_50
      subst w_50
      have hC := hC.obj 0 pl
      refine wd_iret hx hb hr hlocks hW hS dX2_point_53 ?_
      have e9 : s_point (cd, pl, df, tx, kp, rs) p = (nI ((r_uni 60 p Xd).2), 0, pl, (rl (r_uni 60 p Xd)), tx, kp, rs) := by simp only [s_point, if_neg c_4, s_no, if_neg (show ¬ 60 < df.length + (u_units p).length by omega)]; rw [show df ++ u_units p = rl (r_uni 60 p Xd) from by rw [rl_uni (by omega), hdf], rl_len]
      show _ = (s_point (cd, pl, df, tx, kp, rs) p).1 ∧ InvC cI cT o (s_point (cd, pl, df, tx, kp, rs) p).2 _
      rw [e9]
      exact ⟨rfl, tA, kA, dr, drI, wk, wkI, sw, swI, aT, aI, (r_uni 60 p Xd), hC⟩
    ·
      have c_24 : ¬ (Xd.2 + (u_units p).length ≤ 60) := fun q9 => absurd ((nI_leI (by omega) (by omega)).mpr q9) (show ¬ (nI (Xd.2 + (u_units p).length) ≤ nI 60) from c_24)
      refine lv_aload_n hx hb dX2_point_27 rfl (lv_at hl 0 rfl) ?_
      refine lv_bipush (v := 6) hx hb dX2_point_28 (by decide) ?_
      refine wd_callVi (As := [.int 6]) (rest := []) (c2 := 0) (s2 := 0) ⟨hx, hb, hml, hown, hts⟩ (k_X2_refuse l D cI cT w H.size o tA kA (nI kp.length) dr wk sw cd pl 6 hC.1) (cwV 1 hts gX2_point_X2_refuse rfl rfl rfl (by decide +kernel) ⟨Nat.le_of_ble_eq_true rfl, Nat.le_of_ble_eq_true rfl⟩) gK_ok hK hW (wd_recv (ci := 2) hK.1 hW rfl hC.1) hS hA rfl hl.1 rfl (Nat.le_of_ble_eq_true rfl) dX2_point_30 ⟨Nat.le_of_ble_eq_true rfl, Nat.le_of_ble_eq_true rfl⟩ rfl rfl (fun r_30 w_30 H locs hp_30 hW hz hS => ?_)
      obtain ⟨q_r, q_w⟩ := hp_30
      subst r_30
      subst w_30
      have hC := hC.obj 6 pl
      refine wd_iret hx hb hr hlocks hW hS dX2_point_33 ?_
      have e9 : s_point (cd, pl, df, tx, kp, rs) p = (0, 6, pl, df, tx, kp, rs) := by simp only [s_point, if_neg c_4, s_no, if_pos (show 60 < df.length + (u_units p).length by omega)]
      show _ = (s_point (cd, pl, df, tx, kp, rs) p).1 ∧ InvC cI cT o (s_point (cd, pl, df, tx, kp, rs) p).2 _
      rw [e9]
      exact ⟨rfl, tA, kA, dr, drI, wk, wkI, sw, swI, aT, aI, Xd, hC⟩
  ·
    have c_4 := j_bn c_4
    refine lv_ldc (v := (-2000000001)) hx hb hown (hts (.constant RX2 47 (-2000000001)) (by decide +kernel)) dX2_point_7 ?_
    refine wd_iret hx hb hr hlocks hW hS dX2_point_9 ?_
    have e9 : s_point (cd, pl, df, tx, kp, rs) p = ((-2000000001), cd, pl, df, tx, kp, rs) := by simp only [s_point, if_pos c_4]
    show _ = (s_point (cd, pl, df, tx, kp, rs) p).1 ∧ InvC cI cT o (s_point (cd, pl, df, tx, kp, rs) p).2 _
    rw [e9]
    exact ⟨rfl, tA, kA, dr, drI, wk, wkI, sw, swI, aT, aI, Xd, hC⟩
set_option maxHeartbeats 4000000 in
set_option maxRecDepth 100000 in
theorem k_X2_unit (l : Launch) (D : va_G) (cI cT : ClassId) (w : Wd) (sz : Nat) (o : Nat) (cd : Int32) (pl : Int32) (df : List Int32) (tx : Nat → Option Nat) (kp : List Nat) (rs : Rws) (u : Int32) (hwf : WF (cd, pl, df, tx, kp, rs)) (hI : InvC cI cT o (cd, pl, df, tx, kp, rs) w) : wd_Mi l D vwCl (gK D cI cT) yX2_unit wsX2_unit (wd_rm 1 0 0) [.ref o, .int u] w sz (fun r w' => r = (s_unit (cd, pl, df, tx, kp, rs) u).1 ∧ InvC cI cT o (s_unit (cd, pl, df, tx, kp, rs) u).2 w') := by
  refine wd_met (cc := cX2_unit) (maxL := 2) (ret := (some .int)) (by decide) rfl (Nat.le_of_ble_eq_true rfl) ?_
  intro pg ev sg mi bl mt cde ls C0 hsz hK hW hl
  obtain ⟨hx, hb, hr, hml, hown, hts, hlocks, hnm⟩ := C0
  subst hsz
  have hown : sg.vm.findClass RX2 = some mi.cls := hown
  have hS : va_S (wd_A w sg.heap.size) sg.heap sg.heap [] := va_S.rf
  have hA : ∀ q, sg.heap.size ≤ q → wd_A w sg.heap.size q := fun q h => Or.inr h
  have hl : lv_has ls 2 [(0, .ref o), (1, .int u)] := hl
  obtain ⟨tA, kA, dr, drI, wk, wkI, sw, swI, aT, aI, Xd, hC⟩ := hI
  dsimp only at hC
  obtain ⟨Xw, hXw⟩ := hC.2.2.2.2.1
  obtain ⟨Xs, hXs⟩ := hC.2.2.2.2.2.1
  have hXd1 := hC.2.2.2.1.1.2.2.1
  have hdf := hC.2.2.2.1.2
  have hkp : kp.length ≤ 12 := hwf.2.2.1
  have hdl : df.length = Xd.2 := by rw [← hC.2.2.2.1.2, rl_len]
  have hdg : ∀ j, j < df.length → Xd.1 j = lf df j := fun j hj => by rw [← hdf, lf, rl_getD (by omega)]
  refine lv_iload_n hx hb dX2_unit_0 rfl (lv_at hl 1 rfl) ?_
  refine lv_if_lt (tgt := 10) hx hb dX2_unit_1 (by decide) (fun c_1 => ?_) (fun c_1 => ?_)
  ·
    refine lv_ldc (v := (-2000000001)) hx hb hown (hts (.constant RX2 47 (-2000000001)) (by decide +kernel)) dX2_unit_10 ?_
    refine wd_iret hx hb hr hlocks hW hS dX2_unit_12 ?_
    have e9 : s_unit (cd, pl, df, tx, kp, rs) u = ((-2000000001), cd, pl, df, tx, kp, rs) := by simp only [s_unit, if_pos (Or.inl c_1)]
    show _ = (s_unit (cd, pl, df, tx, kp, rs) u).1 ∧ InvC cI cT o (s_unit (cd, pl, df, tx, kp, rs) u).2 _
    rw [e9]
    exact ⟨rfl, tA, kA, dr, drI, wk, wkI, sw, swI, aT, aI, Xd, hC⟩
  ·
    refine lv_iload_n hx hb dX2_unit_4 rfl (lv_at hl 1 rfl) ?_
    refine lv_ldc (v := 65535) hx hb hown (hts (.constant RX2 64 65535) (by decide +kernel)) dX2_unit_5 ?_
    refine lv_icmp_le (tgt := 13) hx hb dX2_unit_7 (by decide) (fun c_7 => ?_) (fun c_7 => ?_)
    ·
      simp only [i_le, Decidable.not_not] at c_7
      refine lv_aload_n hx hb dX2_unit_13 rfl (lv_at hl 0 rfl) ?_
      refine wd_get (ci := 2) (v := .ref dr) (C := RX2) (T := TX2) (N := 8) hx hb hts (by decide +kernel) hown hK.1 hW hC.1 rfl 3 (by decide) (hts (.fieldLink RX2 27 "CharRows" "draft" "LCharRows$Row;") (by decide +kernel)) (fun _ h9 => h9) rfl dX2_unit_14 ?_
      refine wd_get (ci := 0) (v := .int (nI Xd.2)) (C := RX0) (T := TX0) (N := 2) hx hb hts (by decide +kernel) hown hK.1 hW hC.2.2.2.1.1.1 rfl 1 (by decide) (hts (.fieldLink RX2 48 "CharRows$Row" "count" "I") (by decide +kernel)) (fun _ h9 => h9) rfl dX2_unit_17 ?_
      refine lv_bipush (v := 60) hx hb dX2_unit_20 (by decide) ?_
      refine lv_icmp_lt (tgt := 32) hx hb dX2_unit_22 (by decide) (fun c_22 => ?_) (fun c_22 => ?_)
      ·
        have c_22 : Xd.2 < 60 := (nI_ltI (by omega) (by omega)).mp (show (nI Xd.2 < nI 60) from c_22)
        refine lv_aload_n hx hb dX2_unit_32 rfl (lv_at hl 0 rfl) ?_
        refine wd_get (ci := 2) (v := .ref dr) (C := RX2) (T := TX2) (N := 8) hx hb hts (by decide +kernel) hown hK.1 hW hC.1 rfl 3 (by decide) (hts (.fieldLink RX2 27 "CharRows" "draft" "LCharRows$Row;") (by decide +kernel)) (fun _ h9 => h9) rfl dX2_unit_33 ?_
        refine lv_iload_n hx hb dX2_unit_36 rfl (lv_at hl 1 rfl) ?_
        refine wd_callVv (As := [.int u]) (rest := []) (c2 := 0) (s2 := 0) ⟨hx, hb, hml, hown, hts⟩ (k_X0_add l D cI cT w sg.heap.size dr drI 60 Xd u hC.2.2.2.1.1) (cwV 1 hts gX2_unit_X0_add rfl rfl rfl (by decide +kernel) ⟨Nat.le_of_ble_eq_true rfl, Nat.le_of_ble_eq_true rfl⟩) gK_ok hK hW (wd_recv (ci := 0) hK.1 hW rfl hC.2.2.2.1.1.1) hS hA rfl hl.1 rfl (Nat.le_of_ble_eq_true rfl) dX2_unit_37 ⟨Nat.le_of_ble_eq_true rfl, Nat.le_of_ble_eq_true rfl⟩ rfl rfl (fun w_37 H locs hp_37 hW hz hS => ?_)
        subst w_37
        have hC := hC.draft (r_add 60 u Xd) (r_add_le hC.2.2.2.1.1.2.2.1)
        refine lv_aload_n hx hb dX2_unit_40 rfl (lv_at hl 0 rfl) ?_
        refine lv_aload_n hx hb dX2_unit_41 rfl (lv_at hl 0 rfl) ?_
        refine wd_get (ci := 2) (v := .ref dr) (C := RX2) (T := TX2) (N := 8) hx hb hts (by decide +kernel) hown hK.1 hW hC.1 rfl 3 (by decide) (hts (.fieldLink RX2 27 "CharRows" "draft" "LCharRows$Row;") (by decide +kernel)) (fun _ h9 => h9) rfl dX2_unit_42 ?_
        refine wd_get (ci := 0) (v := .int (nI ((r_add 60 u Xd).2))) (C := RX0) (T := TX0) (N := 2) hx hb hts (by decide +kernel) hown hK.1 hW hC.2.2.2.1.1.1 rfl 1 (by decide) (hts (.fieldLink RX2 48 "CharRows$Row" "count" "I") (by decide +kernel)) (fun _ h9 => h9) rfl dX2_unit_45 ?_
        refine wd_callVi (As := [.int (nI ((r_add 60 u Xd).2))]) (rest := []) (c2 := 0) (s2 := 0) ⟨hx, hb, hml, hown, hts⟩ (k_X2_done l D cI cT (rowSet w dr drI cI 60 (r_add 60 u Xd)) H.size o tA kA (nI kp.length) dr wk sw cd pl (nI ((r_add 60 u Xd).2)) hC.1) (cwV 1 hts gX2_unit_X2_done rfl rfl rfl (by decide +kernel) ⟨Nat.le_of_ble_eq_true rfl, Nat.le_of_ble_eq_true rfl⟩) gK_ok hK hW (wd_recv (ci := 2) hK.1 hW rfl hC.1) hS hA rfl hl.1 rfl (Nat.le_of_ble_eq_true rfl) dX2_unit_48 ⟨Nat.le_of_ble_eq_true rfl, Nat.le_of_ble_eq_true rfl⟩ rfl rfl (fun r_48 w_48 H locs hp_48 hW hz hS => ?_)
        obtain ⟨q_r, q_w⟩ := hp_48
        subst r_48
        subst w_48
        have hC := hC.obj 0 pl
        refine wd_iret hx hb hr hlocks hW hS dX2_unit_51 ?_
        have e9 : s_unit (cd, pl, df, tx, kp, rs) u = (nI ((r_add 60 u Xd).2), 0, pl, (rl (r_add 60 u Xd)), tx, kp, rs) := by simp only [s_unit, if_neg (not_or.mpr ⟨c_1, c_7⟩), s_no, if_neg (show ¬ 60 ≤ df.length by omega)]; rw [show df ++ [u] = rl (r_add 60 u Xd) from by rw [rl_add (by omega), hdf], rl_len]
        show _ = (s_unit (cd, pl, df, tx, kp, rs) u).1 ∧ InvC cI cT o (s_unit (cd, pl, df, tx, kp, rs) u).2 _
        rw [e9]
        exact ⟨rfl, tA, kA, dr, drI, wk, wkI, sw, swI, aT, aI, (r_add 60 u Xd), hC⟩
      ·
        have c_22 : ¬ (Xd.2 < 60) := fun q9 => absurd ((nI_ltI (by omega) (by omega)).mpr q9) (show ¬ (nI Xd.2 < nI 60) from c_22)
        refine lv_aload_n hx hb dX2_unit_25 rfl (lv_at hl 0 rfl) ?_
        refine lv_bipush (v := 6) hx hb dX2_unit_26 (by decide) ?_
        refine wd_callVi (As := [.int 6]) (rest := []) (c2 := 0) (s2 := 0) ⟨hx, hb, hml, hown, hts⟩ (k_X2_refuse l D cI cT w sg.heap.size o tA kA (nI kp.length) dr wk sw cd pl 6 hC.1) (cwV 1 hts gX2_unit_X2_refuse rfl rfl rfl (by decide +kernel) ⟨Nat.le_of_ble_eq_true rfl, Nat.le_of_ble_eq_true rfl⟩) gK_ok hK hW (wd_recv (ci := 2) hK.1 hW rfl hC.1) hS hA rfl hl.1 rfl (Nat.le_of_ble_eq_true rfl) dX2_unit_28 ⟨Nat.le_of_ble_eq_true rfl, Nat.le_of_ble_eq_true rfl⟩ rfl rfl (fun r_28 w_28 H locs hp_28 hW hz hS => ?_)
        obtain ⟨q_r, q_w⟩ := hp_28
        subst r_28
        subst w_28
        have hC := hC.obj 6 pl
        refine wd_iret hx hb hr hlocks hW hS dX2_unit_31 ?_
        have e9 : s_unit (cd, pl, df, tx, kp, rs) u = (0, 6, pl, df, tx, kp, rs) := by simp only [s_unit, if_neg (not_or.mpr ⟨c_1, c_7⟩), s_no, if_pos (show 60 ≤ df.length by omega)]
        show _ = (s_unit (cd, pl, df, tx, kp, rs) u).1 ∧ InvC cI cT o (s_unit (cd, pl, df, tx, kp, rs) u).2 _
        rw [e9]
        exact ⟨rfl, tA, kA, dr, drI, wk, wkI, sw, swI, aT, aI, Xd, hC⟩
    ·
      simp only [i_le, Decidable.not_not] at c_7
      refine lv_ldc (v := (-2000000001)) hx hb hown (hts (.constant RX2 47 (-2000000001)) (by decide +kernel)) dX2_unit_10 ?_
      refine wd_iret hx hb hr hlocks hW hS dX2_unit_12 ?_
      have e9 : s_unit (cd, pl, df, tx, kp, rs) u = ((-2000000001), cd, pl, df, tx, kp, rs) := by simp only [s_unit, if_pos (Or.inr c_7)]
      show _ = (s_unit (cd, pl, df, tx, kp, rs) u).1 ∧ InvC cI cT o (s_unit (cd, pl, df, tx, kp, rs) u).2 _
      rw [e9]
      exact ⟨rfl, tA, kA, dr, drI, wk, wkI, sw, swI, aT, aI, Xd, hC⟩
set_option maxHeartbeats 4000000 in
set_option maxRecDepth 100000 in
theorem k_X2_share (l : Launch) (D : va_G) (cI cT : ClassId) (w : Wd) (sz : Nat) (o : Nat) (cd : Int32) (pl : Int32) (df : List Int32) (tx : Nat → Option Nat) (kp : List Nat) (rs : Rws) (t : Int32) (u : Int32) (hwf : WF (cd, pl, df, tx, kp, rs)) (hI : InvC cI cT o (cd, pl, df, tx, kp, rs) w) : wd_Mi l D vwCl (gK D cI cT) yX2_share wsX2_share (wd_rm 1 0 0) [.ref o, .int t, .int u] w sz (fun r w' => r = (s_share (cd, pl, df, tx, kp, rs) t u).1 ∧ InvC cI cT o (s_share (cd, pl, df, tx, kp, rs) t u).2 w') := by
  refine wd_met (cc := cX2_share) (maxL := 3) (ret := (some .int)) (by decide) rfl (Nat.le_of_ble_eq_true rfl) ?_
  intro pg ev sg mi bl mt cde ls C0 hsz hK hW hl
  obtain ⟨hx, hb, hr, hml, hown, hts, hlocks, hnm⟩ := C0
  subst hsz
  have hown : sg.vm.findClass RX2 = some mi.cls := hown
  have hS : va_S (wd_A w sg.heap.size) sg.heap sg.heap [] := va_S.rf
  have hA : ∀ q, sg.heap.size ≤ q → wd_A w sg.heap.size q := fun q h => Or.inr h
  have hl : lv_has ls 3 [(0, .ref o), (1, .int t), (2, .int u)] := hl
  obtain ⟨tA, kA, dr, drI, wk, wkI, sw, swI, aT, aI, Xd, hC⟩ := hI
  dsimp only at hC
  obtain ⟨Xw, hXw⟩ := hC.2.2.2.2.1
  obtain ⟨Xs, hXs⟩ := hC.2.2.2.2.2.1
  have hXd1 := hC.2.2.2.1.1.2.2.1
  have hdf := hC.2.2.2.1.2
  have hkp : kp.length ≤ 12 := hwf.2.2.1
  have hdl : df.length = Xd.2 := by rw [← hC.2.2.2.1.2, rl_len]
  have hdg : ∀ j, j < df.length → Xd.1 j = lf df j := fun j hj => by rw [← hdf, lf, rl_getD (by omega)]
  refine lv_iload_n hx hb dX2_share_0 rfl (lv_at hl 1 rfl) ?_
  refine wd_callSi (As := [.int t]) (rest := []) (c2 := 0) (s2 := 0) ⟨hx, hb, hml, hown, hts⟩ (k_X2_isNoText l D cI cT w sg.heap.size t ) (va_cwS 1 hts gX2_share_X2_isNoText rfl rfl rfl (by decide +kernel) ⟨Nat.le_of_ble_eq_true rfl, Nat.le_of_ble_eq_true rfl⟩) gK_ok hK hW hS hA rfl hl.1 rfl (Nat.le_of_ble_eq_true rfl) dX2_share_1 ⟨Nat.le_of_ble_eq_true rfl, Nat.le_of_ble_eq_true rfl⟩ rfl rfl (fun r_1 w_1 H locs hp_1 hW hz hS => ?_)
  obtain ⟨q_r, q_w⟩ := hp_1
  subst r_1
  subst w_1
  refine lv_if_ne (tgt := 14) hx hb dX2_share_4 (by decide) (fun c_4 => ?_) (fun c_4 => ?_)
  ·
    have c_4 := j_bn c_4
    refine lv_ldc (v := (-2000000001)) hx hb hown (hts (.constant RX2 47 (-2000000001)) (by decide +kernel)) dX2_share_14 ?_
    refine wd_iret hx hb hr hlocks hW hS dX2_share_16 ?_
    have e9 : s_share (cd, pl, df, tx, kp, rs) t u = ((-2000000001), cd, pl, df, tx, kp, rs) := by simp only [s_share, if_pos (Or.inl c_4), u_srt, s_tx]
    show _ = (s_share (cd, pl, df, tx, kp, rs) t u).1 ∧ InvC cI cT o (s_share (cd, pl, df, tx, kp, rs) t u).2 _
    rw [e9]
    exact ⟨rfl, tA, kA, dr, drI, wk, wkI, sw, swI, aT, aI, Xd, hC⟩
  ·
    have c_4 := j_b0 c_4
    obtain ⟨tN, htN, htE⟩ := nt_spec c_4
    subst htE
    have hcl_t : (nI tN).toNatClampNeg = tN := nI_clamp (by omega)
    refine lv_iload_n hx hb dX2_share_7 rfl (lv_at hl 2 rfl) ?_
    refine wd_callSi (As := [.int u]) (rest := []) (c2 := 0) (s2 := 0) ⟨hx, hb, hml, hown, hts⟩ (k_X2_isNoText l D cI cT w H.size u ) (va_cwS 1 hts gX2_share_X2_isNoText rfl rfl rfl (by decide +kernel) ⟨Nat.le_of_ble_eq_true rfl, Nat.le_of_ble_eq_true rfl⟩) gK_ok hK hW hS hA rfl hl.1 rfl (Nat.le_of_ble_eq_true rfl) dX2_share_8 ⟨Nat.le_of_ble_eq_true rfl, Nat.le_of_ble_eq_true rfl⟩ rfl rfl (fun r_8 w_8 H locs hp_8 hW hz hS => ?_)
    obtain ⟨q_r, q_w⟩ := hp_8
    subst r_8
    subst w_8
    refine lv_if_eq (tgt := 17) hx hb dX2_share_11 (by decide) (fun c_11 => ?_) (fun c_11 => ?_)
    ·
      have c_11 := j_b0 c_11
      obtain ⟨uN, huN, huE⟩ := nt_spec c_11
      subst huE
      have hcl_u : (nI uN).toNatClampNeg = uN := nI_clamp (by omega)
      refine lv_aload_n hx hb dX2_share_17 rfl (lv_at hl 0 rfl) ?_
      refine wd_get (ci := 2) (v := .ref tA) (C := RX2) (T := TX2) (N := 8) hx hb hts (by decide +kernel) hown hK.1 hW hC.1 rfl 0 (by decide) (hts (.fieldLink RX2 11 "CharRows" "texts" "[LCharRows$Text;") (by decide +kernel)) (fun _ h9 => h9) rfl dX2_share_18 ?_
      refine lv_iload_n hx hb dX2_share_21 rfl (lv_at hl 1 rfl) ?_
      refine lv_aload_n hx hb dX2_share_22 rfl (lv_at hl 0 rfl) ?_
      refine wd_get (ci := 2) (v := .ref tA) (C := RX2) (T := TX2) (N := 8) hx hb hts (by decide +kernel) hown hK.1 hW hC.1 rfl 0 (by decide) (hts (.fieldLink RX2 11 "CharRows" "texts" "[LCharRows$Text;") (by decide +kernel)) (fun _ h9 => h9) rfl dX2_share_23 ?_
      refine lv_iload_n hx hb dX2_share_26 rfl (lv_at hl 2 rfl) ?_
      refine wd_aldq hx hb hK.1 hW 1 hC.2.1 rfl (vp_in_nI (by omega) (by omega)) dX2_share_27 ?_
      rw [nI_clamp (by omega)]
      cases htx_27 : tx uN with
      | none =>
        refine wd_topR (y := .null) (by simp [htx_27, va_rf]) ?_
        refine wd_astqN hx hb hK.1 hW hS 1 hC.2.1 rfl (vp_in_nI (by omega) (by omega)) dX2_share_28 (fun H locs hW hS => ?_)
        rw [nI_clamp (by omega)] at hW
        rw [vuN] at hW
        have hC := hC.txs (va_up tx tN none) (fun r h => live_up (u := uN) (by rw [htx_27]; exact h))
        refine lv_aload_n hx hb dX2_share_29 rfl (lv_at hl 0 rfl) ?_
        refine wd_get (ci := 2) (v := .ref tA) (C := RX2) (T := TX2) (N := 8) hx hb hts (by decide +kernel) hown hK.1 hW hC.1 rfl 0 (by decide) (hts (.fieldLink RX2 11 "CharRows" "texts" "[LCharRows$Text;") (by decide +kernel)) (fun _ h9 => h9) rfl dX2_share_30 ?_
        refine lv_iload_n hx hb dX2_share_33 rfl (lv_at hl 1 rfl) ?_
        refine wd_aldq hx hb hK.1 hW 1 hC.2.1 rfl (vp_in_nI (by omega) (by omega)) dX2_share_34 ?_
        rw [nI_clamp (by omega)]
        refine wd_topR (y := .null) (by simp [va_up, va_rf]) ?_
        refine wd_callSi (As := [.null]) (rest := []) (c2 := 0) (s2 := 0) ⟨hx, hb, hml, hown, hts⟩ (k_X2_sortOfN l D cI cT (wd_up w tA (e_refs cT 10 (fun t => ((va_up tx tN none) t).map aT))) H.size  ) (va_cwS 1 hts gX2_share_X2_sortOf rfl rfl rfl (by decide +kernel) ⟨Nat.le_of_ble_eq_true rfl, Nat.le_of_ble_eq_true rfl⟩) gK_ok hK hW hS hA rfl hl.1 rfl (Nat.le_of_ble_eq_true rfl) dX2_share_35 ⟨Nat.le_of_ble_eq_true rfl, Nat.le_of_ble_eq_true rfl⟩ rfl rfl (fun r_35 w_35 H locs hp_35 hW hz hS => ?_)
        obtain ⟨q_r, q_w⟩ := hp_35
        subst r_35
        subst w_35
        refine wd_iret hx hb hr hlocks hW hS dX2_share_38 ?_
        have e9 : s_share (cd, pl, df, tx, kp, rs) (nI tN) (nI uN) = ((-1), cd, pl, df, (va_up tx tN none), kp, rs) := by simp only [s_share, if_neg (not_or.mpr ⟨c_4, c_11⟩), u_srt, s_tx, hcl_t, hcl_u, htx_27]
        show _ = (s_share (cd, pl, df, tx, kp, rs) (nI tN) (nI uN)).1 ∧ InvC cI cT o (s_share (cd, pl, df, tx, kp, rs) (nI tN) (nI uN)).2 _
        rw [e9]
        exact ⟨rfl, tA, kA, dr, drI, wk, wkI, sw, swI, aT, aI, Xd, hC⟩
      | some r_27 =>
        refine wd_topR (y := .ref (aT r_27)) (by simp [htx_27, va_rf]) ?_
        have hl_27 : live tx kp r_27 := Or.inl ⟨_, htx_27⟩
        have hok_27 : rOK (rs r_27) := (hwf.2.2.2.1 r_27 hl_27).2
        have hlen_27 := hok_27.len
        refine wd_astq hx hb hK.1 hW hS 1 1 hC.2.1 rfl (hC.2.2.2.2.2.2.2.1 r_27 hl_27).1 rfl (vp_in_nI (by omega) (by omega)) dX2_share_28 (fun H locs hW hS => ?_)
        rw [nI_clamp (by omega)] at hW
        rw [vuS] at hW
        have hC := hC.txs (va_up tx tN (some r_27)) (fun r h => live_up (u := uN) (by rw [htx_27]; exact h))
        refine lv_aload_n hx hb dX2_share_29 rfl (lv_at hl 0 rfl) ?_
        refine wd_get (ci := 2) (v := .ref tA) (C := RX2) (T := TX2) (N := 8) hx hb hts (by decide +kernel) hown hK.1 hW hC.1 rfl 0 (by decide) (hts (.fieldLink RX2 11 "CharRows" "texts" "[LCharRows$Text;") (by decide +kernel)) (fun _ h9 => h9) rfl dX2_share_30 ?_
        refine lv_iload_n hx hb dX2_share_33 rfl (lv_at hl 1 rfl) ?_
        refine wd_aldq hx hb hK.1 hW 1 hC.2.1 rfl (vp_in_nI (by omega) (by omega)) dX2_share_34 ?_
        rw [nI_clamp (by omega)]
        refine wd_topR (y := .ref (aT r_27)) (by simp [va_up, va_rf]) ?_
        have hl_34 : live (va_up tx tN (some r_27)) kp r_27 := Or.inl ⟨tN, by simp [va_up]⟩
        refine wd_callSi (As := [.ref (aT r_27)]) (rest := []) (c2 := 0) (s2 := 0) ⟨hx, hb, hml, hown, hts⟩ (k_X2_sortOf l D cI cT (wd_up w tA (e_refs cT 10 (fun t => ((va_up tx tN (some r_27)) t).map aT))) H.size (aT r_27) (aI r_27) ((rs r_27).1) ((rs r_27).2.length) (lf (rs r_27).2) (⟨(hC.2.2.2.2.2.2.2.1 r_27 hl_34).1, (hC.2.2.2.2.2.2.2.1 r_27 hl_34).2.1, by omega⟩)) (va_cwS 1 hts gX2_share_X2_sortOf rfl rfl rfl (by decide +kernel) ⟨Nat.le_of_ble_eq_true rfl, Nat.le_of_ble_eq_true rfl⟩) gK_ok hK hW hS hA rfl hl.1 rfl (Nat.le_of_ble_eq_true rfl) dX2_share_35 ⟨Nat.le_of_ble_eq_true rfl, Nat.le_of_ble_eq_true rfl⟩ rfl rfl (fun r_35 w_35 H locs hp_35 hW hz hS => ?_)
        obtain ⟨q_r, q_w⟩ := hp_35
        subst r_35
        subst w_35
        refine wd_iret hx hb hr hlocks hW hS dX2_share_38 ?_
        have e9 : s_share (cd, pl, df, tx, kp, rs) (nI tN) (nI uN) = ((rs r_27).1, cd, pl, df, (va_up tx tN (some r_27)), kp, rs) := by simp only [s_share, if_neg (not_or.mpr ⟨c_4, c_11⟩), u_srt, s_tx, hcl_t, hcl_u, htx_27]
        show _ = (s_share (cd, pl, df, tx, kp, rs) (nI tN) (nI uN)).1 ∧ InvC cI cT o (s_share (cd, pl, df, tx, kp, rs) (nI tN) (nI uN)).2 _
        rw [e9]
        exact ⟨rfl, tA, kA, dr, drI, wk, wkI, sw, swI, aT, aI, Xd, hC⟩
    ·
      have c_11 := j_bn c_11
      refine lv_ldc (v := (-2000000001)) hx hb hown (hts (.constant RX2 47 (-2000000001)) (by decide +kernel)) dX2_share_14 ?_
      refine wd_iret hx hb hr hlocks hW hS dX2_share_16 ?_
      have e9 : s_share (cd, pl, df, tx, kp, rs) (nI tN) u = ((-2000000001), cd, pl, df, tx, kp, rs) := by simp only [s_share, if_pos (Or.inr c_11), u_srt, s_tx, hcl_t]
      show _ = (s_share (cd, pl, df, tx, kp, rs) (nI tN) u).1 ∧ InvC cI cT o (s_share (cd, pl, df, tx, kp, rs) (nI tN) u).2 _
      rw [e9]
      exact ⟨rfl, tA, kA, dr, drI, wk, wkI, sw, swI, aT, aI, Xd, hC⟩
set_option maxHeartbeats 4000000 in
set_option maxRecDepth 100000 in
theorem k_X2_nothing (l : Launch) (D : va_G) (cI cT : ClassId) (w : Wd) (sz : Nat) (o : Nat) (cd : Int32) (pl : Int32) (df : List Int32) (tx : Nat → Option Nat) (kp : List Nat) (rs : Rws) (t : Int32) (hwf : WF (cd, pl, df, tx, kp, rs)) (hI : InvC cI cT o (cd, pl, df, tx, kp, rs) w) : wd_Mi l D vwCl (gK D cI cT) yX2_nothing wsX2_nothing (wd_rm 1 0 0) [.ref o, .int t] w sz (fun r w' => r = (s_nothing (cd, pl, df, tx, kp, rs) t).1 ∧ InvC cI cT o (s_nothing (cd, pl, df, tx, kp, rs) t).2 w') := by
  refine wd_met (cc := cX2_nothing) (maxL := 3) (ret := (some .int)) (by decide) rfl (Nat.le_of_ble_eq_true rfl) ?_
  intro pg ev sg mi bl mt cde ls C0 hsz hK hW hl
  obtain ⟨hx, hb, hr, hml, hown, hts, hlocks, hnm⟩ := C0
  subst hsz
  have hown : sg.vm.findClass RX2 = some mi.cls := hown
  have hS : va_S (wd_A w sg.heap.size) sg.heap sg.heap [] := va_S.rf
  have hA : ∀ q, sg.heap.size ≤ q → wd_A w sg.heap.size q := fun q h => Or.inr h
  have hl : lv_has ls 3 [(0, .ref o), (1, .int t)] := hl
  obtain ⟨tA, kA, dr, drI, wk, wkI, sw, swI, aT, aI, Xd, hC⟩ := hI
  dsimp only at hC
  obtain ⟨Xw, hXw⟩ := hC.2.2.2.2.1
  obtain ⟨Xs, hXs⟩ := hC.2.2.2.2.2.1
  have hXd1 := hC.2.2.2.1.1.2.2.1
  have hdf := hC.2.2.2.1.2
  have hkp : kp.length ≤ 12 := hwf.2.2.1
  have hdl : df.length = Xd.2 := by rw [← hC.2.2.2.1.2, rl_len]
  have hdg : ∀ j, j < df.length → Xd.1 j = lf df j := fun j hj => by rw [← hdf, lf, rl_getD (by omega)]
  refine lv_iload_n hx hb dX2_nothing_0 rfl (lv_at hl 1 rfl) ?_
  refine wd_callSi (As := [.int t]) (rest := []) (c2 := 0) (s2 := 0) ⟨hx, hb, hml, hown, hts⟩ (k_X2_isNoText l D cI cT w sg.heap.size t ) (va_cwS 1 hts gX2_nothing_X2_isNoText rfl rfl rfl (by decide +kernel) ⟨Nat.le_of_ble_eq_true rfl, Nat.le_of_ble_eq_true rfl⟩) gK_ok hK hW hS hA rfl hl.1 rfl (Nat.le_of_ble_eq_true rfl) dX2_nothing_1 ⟨Nat.le_of_ble_eq_true rfl, Nat.le_of_ble_eq_true rfl⟩ rfl rfl (fun r_1 w_1 H locs hp_1 hW hz hS => ?_)
  obtain ⟨q_r, q_w⟩ := hp_1
  subst r_1
  subst w_1
  refine lv_if_eq (tgt := 10) hx hb dX2_nothing_4 (by decide) (fun c_4 => ?_) (fun c_4 => ?_)
  ·
    have c_4 := j_b0 c_4
    obtain ⟨tN, htN, htE⟩ := nt_spec c_4
    subst htE
    have hcl_t : (nI tN).toNatClampNeg = tN := nI_clamp (by omega)
    refine lv_aload_n hx hb dX2_nothing_10 rfl (lv_at hl 0 rfl) ?_
    refine wd_get (ci := 2) (v := .ref tA) (C := RX2) (T := TX2) (N := 8) hx hb hts (by decide +kernel) hown hK.1 hW hC.1 rfl 0 (by decide) (hts (.fieldLink RX2 11 "CharRows" "texts" "[LCharRows$Text;") (by decide +kernel)) (fun _ h9 => h9) rfl dX2_nothing_11 ?_
    refine lv_iload_n hx hb dX2_nothing_14 rfl (lv_at hl 1 rfl) ?_
    refine wd_aldq hx hb hK.1 hW 1 hC.2.1 rfl (vp_in_nI (by omega) (by omega)) dX2_nothing_15 ?_
    rw [nI_clamp (by omega)]
    cases htx_15 : tx tN with
    | none =>
      refine wd_topR (y := .null) (by simp [htx_15, va_rf]) ?_
      refine wd_callSi (As := [.null]) (rest := []) (c2 := 0) (s2 := 0) ⟨hx, hb, hml, hown, hts⟩ (k_X2_sortOfN l D cI cT w H.size  ) (va_cwS 1 hts gX2_nothing_X2_sortOf rfl rfl rfl (by decide +kernel) ⟨Nat.le_of_ble_eq_true rfl, Nat.le_of_ble_eq_true rfl⟩) gK_ok hK hW hS hA rfl hl.1 rfl (Nat.le_of_ble_eq_true rfl) dX2_nothing_16 ⟨Nat.le_of_ble_eq_true rfl, Nat.le_of_ble_eq_true rfl⟩ rfl rfl (fun r_16 w_16 H locs hp_16 hW hz hS => ?_)
      obtain ⟨q_r, q_w⟩ := hp_16
      subst r_16
      subst w_16
      refine lv_istore_n (lv' := [(2, .int (-1)), (0, .ref o), (1, .int (nI tN))]) hx hb dX2_nothing_19 rfl hl (by decide) rfl (fun ls hl => ?_)
      refine lv_aload_n hx hb dX2_nothing_20 rfl (lv_at hl 1 rfl) ?_
      refine wd_get (ci := 2) (v := .ref tA) (C := RX2) (T := TX2) (N := 8) hx hb hts (by decide +kernel) hown hK.1 hW hC.1 rfl 0 (by decide) (hts (.fieldLink RX2 11 "CharRows" "texts" "[LCharRows$Text;") (by decide +kernel)) (fun _ h9 => h9) rfl dX2_nothing_21 ?_
      refine lv_iload_n hx hb dX2_nothing_24 rfl (lv_at hl 2 rfl) ?_
      refine lv_null hx hb dX2_nothing_25 ?_
      refine wd_astqN hx hb hK.1 hW hS 1 hC.2.1 rfl (vp_in_nI (by omega) (by omega)) dX2_nothing_26 (fun H locs hW hS => ?_)
      rw [nI_clamp (by omega)] at hW
      rw [vuN] at hW
      have hC := hC.txs (va_up tx tN none) (fun r h => live_upN h)
      refine lv_iload_n hx hb dX2_nothing_27 rfl (lv_at hl 0 rfl) ?_
      refine wd_iret hx hb hr hlocks hW hS dX2_nothing_28 ?_
      have e9 : s_nothing (cd, pl, df, tx, kp, rs) (nI tN) = ((-1), cd, pl, df, (va_up tx tN none), kp, rs) := by simp only [s_nothing, if_neg c_4, u_srt, s_tx, hcl_t, htx_15]
      show _ = (s_nothing (cd, pl, df, tx, kp, rs) (nI tN)).1 ∧ InvC cI cT o (s_nothing (cd, pl, df, tx, kp, rs) (nI tN)).2 _
      rw [e9]
      exact ⟨rfl, tA, kA, dr, drI, wk, wkI, sw, swI, aT, aI, Xd, hC⟩
    | some r_15 =>
      refine wd_topR (y := .ref (aT r_15)) (by simp [htx_15, va_rf]) ?_
      have hl_15 : live tx kp r_15 := Or.inl ⟨_, htx_15⟩
      have hok_15 : rOK (rs r_15) := (hwf.2.2.2.1 r_15 hl_15).2
      have hlen_15 := hok_15.len
      refine wd_callSi (As := [.ref (aT r_15)]) (rest := []) (c2 := 0) (s2 := 0) ⟨hx, hb, hml, hown, hts⟩ (k_X2_sortOf l D cI cT w H.size (aT r_15) (aI r_15) ((rs r_15).1) ((rs r_15).2.length) (lf (rs r_15).2) (⟨(hC.2.2.2.2.2.2.2.1 r_15 hl_15).1, (hC.2.2.2.2.2.2.2.1 r_15 hl_15).2.1, by omega⟩)) (va_cwS 1 hts gX2_nothing_X2_sortOf rfl rfl rfl (by decide +kernel) ⟨Nat.le_of_ble_eq_true rfl, Nat.le_of_ble_eq_true rfl⟩) gK_ok hK hW hS hA rfl hl.1 rfl (Nat.le_of_ble_eq_true rfl) dX2_nothing_16 ⟨Nat.le_of_ble_eq_true rfl, Nat.le_of_ble_eq_true rfl⟩ rfl rfl (fun r_16 w_16 H locs hp_16 hW hz hS => ?_)
      obtain ⟨q_r, q_w⟩ := hp_16
      subst r_16
      subst w_16
      refine lv_istore_n (lv' := [(2, .int ((rs r_15).1)), (0, .ref o), (1, .int (nI tN))]) hx hb dX2_nothing_19 rfl hl (by decide) rfl (fun ls hl => ?_)
      refine lv_aload_n hx hb dX2_nothing_20 rfl (lv_at hl 1 rfl) ?_
      refine wd_get (ci := 2) (v := .ref tA) (C := RX2) (T := TX2) (N := 8) hx hb hts (by decide +kernel) hown hK.1 hW hC.1 rfl 0 (by decide) (hts (.fieldLink RX2 11 "CharRows" "texts" "[LCharRows$Text;") (by decide +kernel)) (fun _ h9 => h9) rfl dX2_nothing_21 ?_
      refine lv_iload_n hx hb dX2_nothing_24 rfl (lv_at hl 2 rfl) ?_
      refine lv_null hx hb dX2_nothing_25 ?_
      refine wd_astqN hx hb hK.1 hW hS 1 hC.2.1 rfl (vp_in_nI (by omega) (by omega)) dX2_nothing_26 (fun H locs hW hS => ?_)
      rw [nI_clamp (by omega)] at hW
      rw [vuN] at hW
      have hC := hC.txs (va_up tx tN none) (fun r h => live_upN h)
      refine lv_iload_n hx hb dX2_nothing_27 rfl (lv_at hl 0 rfl) ?_
      refine wd_iret hx hb hr hlocks hW hS dX2_nothing_28 ?_
      have e9 : s_nothing (cd, pl, df, tx, kp, rs) (nI tN) = ((rs r_15).1, cd, pl, df, (va_up tx tN none), kp, rs) := by simp only [s_nothing, if_neg c_4, u_srt, s_tx, hcl_t, htx_15]
      show _ = (s_nothing (cd, pl, df, tx, kp, rs) (nI tN)).1 ∧ InvC cI cT o (s_nothing (cd, pl, df, tx, kp, rs) (nI tN)).2 _
      rw [e9]
      exact ⟨rfl, tA, kA, dr, drI, wk, wkI, sw, swI, aT, aI, Xd, hC⟩
  ·
    have c_4 := j_bn c_4
    refine lv_ldc (v := (-2000000001)) hx hb hown (hts (.constant RX2 47 (-2000000001)) (by decide +kernel)) dX2_nothing_7 ?_
    refine wd_iret hx hb hr hlocks hW hS dX2_nothing_9 ?_
    have e9 : s_nothing (cd, pl, df, tx, kp, rs) t = ((-2000000001), cd, pl, df, tx, kp, rs) := by simp only [s_nothing, if_pos c_4, u_srt, s_tx]
    show _ = (s_nothing (cd, pl, df, tx, kp, rs) t).1 ∧ InvC cI cT o (s_nothing (cd, pl, df, tx, kp, rs) t).2 _
    rw [e9]
    exact ⟨rfl, tA, kA, dr, drI, wk, wkI, sw, swI, aT, aI, Xd, hC⟩
set_option maxHeartbeats 4000000 in
set_option maxRecDepth 100000 in
theorem k_X2_same (l : Launch) (D : va_G) (cI cT : ClassId) (w : Wd) (sz : Nat) (o : Nat) (cd : Int32) (pl : Int32) (df : List Int32) (tx : Nat → Option Nat) (kp : List Nat) (rs : Rws) (a : Int32) (b : Int32) (hwf : WF (cd, pl, df, tx, kp, rs)) (hI : InvC cI cT o (cd, pl, df, tx, kp, rs) w) : wd_Mi l D vwCl (gK D cI cT) yX2_same wsX2_same (wd_rm 1 0 0) [.ref o, .int a, .int b] w sz (fun r w' => r = (s_same (cd, pl, df, tx, kp, rs) a b).1 ∧ InvC cI cT o (s_same (cd, pl, df, tx, kp, rs) a b).2 w') := by
  refine wd_met (cc := cX2_same) (maxL := 3) (ret := (some .int)) (by decide) rfl (Nat.le_of_ble_eq_true rfl) ?_
  intro pg ev sg mi bl mt cde ls C0 hsz hK hW hl
  obtain ⟨hx, hb, hr, hml, hown, hts, hlocks, hnm⟩ := C0
  subst hsz
  have hown : sg.vm.findClass RX2 = some mi.cls := hown
  have hS : va_S (wd_A w sg.heap.size) sg.heap sg.heap [] := va_S.rf
  have hA : ∀ q, sg.heap.size ≤ q → wd_A w sg.heap.size q := fun q h => Or.inr h
  have hl : lv_has ls 3 [(0, .ref o), (1, .int a), (2, .int b)] := hl
  obtain ⟨tA, kA, dr, drI, wk, wkI, sw, swI, aT, aI, Xd, hC⟩ := hI
  dsimp only at hC
  obtain ⟨Xw, hXw⟩ := hC.2.2.2.2.1
  obtain ⟨Xs, hXs⟩ := hC.2.2.2.2.2.1
  have hXd1 := hC.2.2.2.1.1.2.2.1
  have hdf := hC.2.2.2.1.2
  have hkp : kp.length ≤ 12 := hwf.2.2.1
  have hdl : df.length = Xd.2 := by rw [← hC.2.2.2.1.2, rl_len]
  have hdg : ∀ j, j < df.length → Xd.1 j = lf df j := fun j hj => by rw [← hdf, lf, rl_getD (by omega)]
  refine lv_iload_n hx hb dX2_same_0 rfl (lv_at hl 1 rfl) ?_
  refine wd_callSi (As := [.int a]) (rest := []) (c2 := 0) (s2 := 0) ⟨hx, hb, hml, hown, hts⟩ (k_X2_isNoText l D cI cT w sg.heap.size a ) (va_cwS 1 hts gX2_same_X2_isNoText rfl rfl rfl (by decide +kernel) ⟨Nat.le_of_ble_eq_true rfl, Nat.le_of_ble_eq_true rfl⟩) gK_ok hK hW hS hA rfl hl.1 rfl (Nat.le_of_ble_eq_true rfl) dX2_same_1 ⟨Nat.le_of_ble_eq_true rfl, Nat.le_of_ble_eq_true rfl⟩ rfl rfl (fun r_1 w_1 H locs hp_1 hW hz hS => ?_)
  obtain ⟨q_r, q_w⟩ := hp_1
  subst r_1
  subst w_1
  refine lv_if_ne (tgt := 14) hx hb dX2_same_4 (by decide) (fun c_4 => ?_) (fun c_4 => ?_)
  ·
    have c_4 := j_bn c_4
    refine lv_ldc (v := (-2000000001)) hx hb hown (hts (.constant RX2 47 (-2000000001)) (by decide +kernel)) dX2_same_14 ?_
    refine wd_iret hx hb hr hlocks hW hS dX2_same_16 ?_
    have e9 : s_same (cd, pl, df, tx, kp, rs) a b = ((-2000000001), cd, pl, df, tx, kp, rs) := by simp only [s_same, if_pos (Or.inl c_4)]
    show _ = (s_same (cd, pl, df, tx, kp, rs) a b).1 ∧ InvC cI cT o (s_same (cd, pl, df, tx, kp, rs) a b).2 _
    rw [e9]
    exact ⟨rfl, tA, kA, dr, drI, wk, wkI, sw, swI, aT, aI, Xd, hC⟩
  ·
    have c_4 := j_b0 c_4
    obtain ⟨aN, haN, haE⟩ := nt_spec c_4
    subst haE
    have hcl_a : (nI aN).toNatClampNeg = aN := nI_clamp (by omega)
    refine lv_iload_n hx hb dX2_same_7 rfl (lv_at hl 2 rfl) ?_
    refine wd_callSi (As := [.int b]) (rest := []) (c2 := 0) (s2 := 0) ⟨hx, hb, hml, hown, hts⟩ (k_X2_isNoText l D cI cT w H.size b ) (va_cwS 1 hts gX2_same_X2_isNoText rfl rfl rfl (by decide +kernel) ⟨Nat.le_of_ble_eq_true rfl, Nat.le_of_ble_eq_true rfl⟩) gK_ok hK hW hS hA rfl hl.1 rfl (Nat.le_of_ble_eq_true rfl) dX2_same_8 ⟨Nat.le_of_ble_eq_true rfl, Nat.le_of_ble_eq_true rfl⟩ rfl rfl (fun r_8 w_8 H locs hp_8 hW hz hS => ?_)
    obtain ⟨q_r, q_w⟩ := hp_8
    subst r_8
    subst w_8
    refine lv_if_eq (tgt := 17) hx hb dX2_same_11 (by decide) (fun c_11 => ?_) (fun c_11 => ?_)
    ·
      have c_11 := j_b0 c_11
      obtain ⟨bN, hbN, hbE⟩ := nt_spec c_11
      subst hbE
      have hcl_b : (nI bN).toNatClampNeg = bN := nI_clamp (by omega)
      refine lv_aload_n hx hb dX2_same_17 rfl (lv_at hl 0 rfl) ?_
      refine wd_get (ci := 2) (v := .ref tA) (C := RX2) (T := TX2) (N := 8) hx hb hts (by decide +kernel) hown hK.1 hW hC.1 rfl 0 (by decide) (hts (.fieldLink RX2 11 "CharRows" "texts" "[LCharRows$Text;") (by decide +kernel)) (fun _ h9 => h9) rfl dX2_same_18 ?_
      refine lv_iload_n hx hb dX2_same_21 rfl (lv_at hl 1 rfl) ?_
      refine wd_aldq hx hb hK.1 hW 1 hC.2.1 rfl (vp_in_nI (by omega) (by omega)) dX2_same_22 ?_
      rw [nI_clamp (by omega)]
      refine lv_aload_n hx hb dX2_same_23 rfl (lv_at hl 0 rfl) ?_
      refine wd_get (ci := 2) (v := .ref tA) (C := RX2) (T := TX2) (N := 8) hx hb hts (by decide +kernel) hown hK.1 hW hC.1 rfl 0 (by decide) (hts (.fieldLink RX2 11 "CharRows" "texts" "[LCharRows$Text;") (by decide +kernel)) (fun _ h9 => h9) rfl dX2_same_24 ?_
      refine lv_iload_n hx hb dX2_same_27 rfl (lv_at hl 2 rfl) ?_
      refine wd_aldq hx hb hK.1 hW 1 hC.2.1 rfl (vp_in_nI (by omega) (by omega)) dX2_same_28 ?_
      rw [nI_clamp (by omega)]
      refine lv_acmp_ne (tgt := 36) hx hb dX2_same_29 (by decide) (fun c_29 => ?_) (fun c_29 => ?_)
      ·
        refine lv_iconst (v := 0) hx hb dX2_same_36 (by decide) ?_
        refine wd_iret hx hb hr hlocks hW hS dX2_same_37 ?_
        have e9 : s_same (cd, pl, df, tx, kp, rs) (nI aN) (nI bN) = (0, cd, pl, df, tx, kp, rs) := by simp only [s_same, if_neg (not_or.mpr ⟨c_4, c_11⟩), if_neg (show ¬ (tx aN = tx bN) from fun q => c_29 (congrArg (Option.map aT) q)), hcl_a, hcl_b]
        show _ = (s_same (cd, pl, df, tx, kp, rs) (nI aN) (nI bN)).1 ∧ InvC cI cT o (s_same (cd, pl, df, tx, kp, rs) (nI aN) (nI bN)).2 _
        rw [e9]
        exact ⟨rfl, tA, kA, dr, drI, wk, wkI, sw, swI, aT, aI, Xd, hC⟩
      ·
        refine lv_iconst (v := 1) hx hb dX2_same_32 (by decide) ?_
        refine lv_goto (tgt := 37) hx hb dX2_same_33 (by decide) ?_
        refine wd_iret hx hb hr hlocks hW hS dX2_same_37 ?_
        have e9 : s_same (cd, pl, df, tx, kp, rs) (nI aN) (nI bN) = (1, cd, pl, df, tx, kp, rs) := by simp only [s_same, if_neg (not_or.mpr ⟨c_4, c_11⟩), if_pos (show tx aN = tx bN from c_same hC c_29), hcl_a, hcl_b]
        show _ = (s_same (cd, pl, df, tx, kp, rs) (nI aN) (nI bN)).1 ∧ InvC cI cT o (s_same (cd, pl, df, tx, kp, rs) (nI aN) (nI bN)).2 _
        rw [e9]
        exact ⟨rfl, tA, kA, dr, drI, wk, wkI, sw, swI, aT, aI, Xd, hC⟩
    ·
      have c_11 := j_bn c_11
      refine lv_ldc (v := (-2000000001)) hx hb hown (hts (.constant RX2 47 (-2000000001)) (by decide +kernel)) dX2_same_14 ?_
      refine wd_iret hx hb hr hlocks hW hS dX2_same_16 ?_
      have e9 : s_same (cd, pl, df, tx, kp, rs) (nI aN) b = ((-2000000001), cd, pl, df, tx, kp, rs) := by simp only [s_same, if_pos (Or.inr c_11), hcl_a]
      show _ = (s_same (cd, pl, df, tx, kp, rs) (nI aN) b).1 ∧ InvC cI cT o (s_same (cd, pl, df, tx, kp, rs) (nI aN) b).2 _
      rw [e9]
      exact ⟨rfl, tA, kA, dr, drI, wk, wkI, sw, swI, aT, aI, Xd, hC⟩
set_option maxHeartbeats 4000000 in
set_option maxRecDepth 100000 in
theorem k_X2_points (l : Launch) (D : va_G) (cI cT : ClassId) (w : Wd) (sz : Nat) (o : Nat) (cd : Int32) (pl : Int32) (df : List Int32) (tx : Nat → Option Nat) (kp : List Nat) (rs : Rws) (t : Int32) (hwf : WF (cd, pl, df, tx, kp, rs)) (hI : InvC cI cT o (cd, pl, df, tx, kp, rs) w) : wd_Mi l D vwCl (gK D cI cT) yX2_points wsX2_points (wd_rm 4 0 0) [.ref o, .int t] w sz (fun r w' => r = (s_points (cd, pl, df, tx, kp, rs) t).1 ∧ InvC cI cT o (s_points (cd, pl, df, tx, kp, rs) t).2 w') := by
  refine wd_met (cc := cX2_points) (maxL := 3) (ret := (some .int)) (by decide) rfl (Nat.le_of_ble_eq_true rfl) ?_
  intro pg ev sg mi bl mt cde ls C0 hsz hK hW hl
  obtain ⟨hx, hb, hr, hml, hown, hts, hlocks, hnm⟩ := C0
  subst hsz
  have hown : sg.vm.findClass RX2 = some mi.cls := hown
  have hS : va_S (wd_A w sg.heap.size) sg.heap sg.heap [] := va_S.rf
  have hA : ∀ q, sg.heap.size ≤ q → wd_A w sg.heap.size q := fun q h => Or.inr h
  have hl : lv_has ls 3 [(0, .ref o), (1, .int t)] := hl
  obtain ⟨tA, kA, dr, drI, wk, wkI, sw, swI, aT, aI, Xd, hC⟩ := hI
  dsimp only at hC
  obtain ⟨Xw, hXw⟩ := hC.2.2.2.2.1
  obtain ⟨Xs, hXs⟩ := hC.2.2.2.2.2.1
  have hXd1 := hC.2.2.2.1.1.2.2.1
  have hdf := hC.2.2.2.1.2
  have hkp : kp.length ≤ 12 := hwf.2.2.1
  have hdl : df.length = Xd.2 := by rw [← hC.2.2.2.1.2, rl_len]
  have hdg : ∀ j, j < df.length → Xd.1 j = lf df j := fun j hj => by rw [← hdf, lf, rl_getD (by omega)]
  refine lv_iload_n hx hb dX2_points_0 rfl (lv_at hl 1 rfl) ?_
  refine wd_callSi (As := [.int t]) (rest := []) (c2 := 0) (s2 := 0) ⟨hx, hb, hml, hown, hts⟩ (k_X2_isNoText l D cI cT w sg.heap.size t ) (va_cwS 1 hts gX2_points_X2_isNoText rfl rfl rfl (by decide +kernel) ⟨Nat.le_of_ble_eq_true rfl, Nat.le_of_ble_eq_true rfl⟩) gK_ok hK hW hS hA rfl hl.1 rfl (Nat.le_of_ble_eq_true rfl) dX2_points_1 ⟨Nat.le_of_ble_eq_true rfl, Nat.le_of_ble_eq_true rfl⟩ rfl rfl (fun r_1 w_1 H locs hp_1 hW hz hS => ?_)
  obtain ⟨q_r, q_w⟩ := hp_1
  subst r_1
  subst w_1
  refine lv_if_eq (tgt := 10) hx hb dX2_points_4 (by decide) (fun c_4 => ?_) (fun c_4 => ?_)
  ·
    have c_4 := j_b0 c_4
    obtain ⟨tN, htN, htE⟩ := nt_spec c_4
    subst htE
    have hcl_t : (nI tN).toNatClampNeg = tN := nI_clamp (by omega)
    refine lv_aload_n hx hb dX2_points_10 rfl (lv_at hl 0 rfl) ?_
    refine wd_get (ci := 2) (v := .ref tA) (C := RX2) (T := TX2) (N := 8) hx hb hts (by decide +kernel) hown hK.1 hW hC.1 rfl 0 (by decide) (hts (.fieldLink RX2 11 "CharRows" "texts" "[LCharRows$Text;") (by decide +kernel)) (fun _ h9 => h9) rfl dX2_points_11 ?_
    refine lv_iload_n hx hb dX2_points_14 rfl (lv_at hl 1 rfl) ?_
    refine wd_aldq hx hb hK.1 hW 1 hC.2.1 rfl (vp_in_nI (by omega) (by omega)) dX2_points_15 ?_
    rw [nI_clamp (by omega)]
    cases htx_15 : tx tN with
    | none =>
      refine wd_topR (y := .null) (by simp [htx_15, va_rf]) ?_
      refine lv_astore_nN (lv' := [(2, .null), (0, .ref o), (1, .int (nI tN))]) hx hb dX2_points_16 rfl hl (by decide) rfl (fun ls hl => ?_)
      refine lv_aload_nN hx hb dX2_points_17 rfl (lv_at hl 0 rfl) ?_
      refine lv_ifnonnullN hx hb dX2_points_18 ?_
      refine lv_aload_n hx hb dX2_points_21 rfl (lv_at hl 1 rfl) ?_
      refine lv_iconst (v := 1) hx hb dX2_points_22 (by decide) ?_
      refine wd_callVi (As := [.int 1]) (rest := []) (c2 := 0) (s2 := 0) ⟨hx, hb, hml, hown, hts⟩ (k_X2_refuse l D cI cT w H.size o tA kA (nI kp.length) dr wk sw cd pl 1 hC.1) (cwV 1 hts gX2_points_X2_refuse rfl rfl rfl (by decide +kernel) ⟨Nat.le_of_ble_eq_true rfl, Nat.le_of_ble_eq_true rfl⟩) gK_ok hK hW (wd_recv (ci := 2) hK.1 hW rfl hC.1) hS hA rfl hl.1 rfl (Nat.le_of_ble_eq_true rfl) dX2_points_23 ⟨Nat.le_of_ble_eq_true rfl, Nat.le_of_ble_eq_true rfl⟩ rfl rfl (fun r_23 w_23 H locs hp_23 hW hz hS => ?_)
      obtain ⟨q_r, q_w⟩ := hp_23
      subst r_23
      subst w_23
      have hC := hC.obj 1 pl
      refine wd_iret hx hb hr hlocks hW hS dX2_points_26 ?_
      have e9 : s_points (cd, pl, df, tx, kp, rs) (nI tN) = (0, 1, pl, df, tx, kp, rs) := by simp only [s_points, if_neg c_4, s_w1, s_no, s_yes, hcl_t, htx_15]
      show _ = (s_points (cd, pl, df, tx, kp, rs) (nI tN)).1 ∧ InvC cI cT o (s_points (cd, pl, df, tx, kp, rs) (nI tN)).2 _
      rw [e9]
      exact ⟨rfl, tA, kA, dr, drI, wk, wkI, sw, swI, aT, aI, Xd, hC⟩
    | some r_15 =>
      refine wd_topR (y := .ref (aT r_15)) (by simp [htx_15, va_rf]) ?_
      have hl_15 : live tx kp r_15 := Or.inl ⟨_, htx_15⟩
      have hok_15 : rOK (rs r_15) := (hwf.2.2.2.1 r_15 hl_15).2
      have hlen_15 := hok_15.len
      refine lv_astore_n (lv' := [(2, .ref (aT r_15)), (0, .ref o), (1, .int (nI tN))]) hx hb dX2_points_16 rfl hl (by decide) rfl (fun ls hl => ?_)
      refine lv_aload_n hx hb dX2_points_17 rfl (lv_at hl 0 rfl) ?_
      refine lv_ifnonnull (tgt := 27) hx hb dX2_points_18 (by decide) ?_
      refine lv_aload_n hx hb dX2_points_27 rfl (lv_at hl 0 rfl) ?_
      refine wd_get (ci := 1) (v := .int ((rs r_15).1)) (C := RX1) (T := TX1) (N := 2) hx hb hts (by decide +kernel) hown hK.1 hW (hC.2.2.2.2.2.2.2.1 r_15 hl_15).1 rfl 0 (by decide) (hts (.fieldLink RX2 94 "CharRows$Text" "kindOfItems" "I") (by decide +kernel)) (fun _ h9 => h9) rfl dX2_points_28 ?_
      refine lv_iconst (v := 2) hx hb dX2_points_31 (by decide) ?_
      refine lv_icmp_ne (tgt := 41) hx hb dX2_points_32 (by decide) (fun c_32 => ?_) (fun c_32 => ?_)
      ·
        refine lv_aload_n hx hb dX2_points_41 rfl (lv_at hl 0 rfl) ?_
        refine lv_aload_n hx hb dX2_points_42 rfl (lv_at hl 1 rfl) ?_
        refine wd_get (ci := 2) (v := .ref wk) (C := RX2) (T := TX2) (N := 8) hx hb hts (by decide +kernel) hown hK.1 hW hC.1 rfl 4 (by decide) (hts (.fieldLink RX2 31 "CharRows" "work" "LCharRows$Row;") (by decide +kernel)) (fun _ h9 => h9) rfl dX2_points_43 ?_
        refine wd_callSv (As := [.ref (aT r_15), .ref wk]) (rest := []) (c2 := 0) (s2 := 0) ⟨hx, hb, hml, hown, hts⟩ (k_X2_listPoints l D cI cT w H.size (aT r_15) (aI r_15) ((rs r_15).1) ((rs r_15).2.length) (lf (rs r_15).2) wk wkI 240 Xw (⟨(hC.2.2.2.2.2.2.2.1 r_15 hl_15).1, (hC.2.2.2.2.2.2.2.1 r_15 hl_15).2.1, by omega⟩) hXw ((hC.2.2.2.2.2.2.2.1 r_15 hl_15).2.2.2.1)) (va_cwS 2 hts gX2_points_X2_listPoints rfl rfl rfl (by decide +kernel) ⟨Nat.le_of_ble_eq_true rfl, Nat.le_of_ble_eq_true rfl⟩) gK_ok hK hW hS hA rfl hl.1 rfl (Nat.le_of_ble_eq_true rfl) dX2_points_46 ⟨Nat.le_of_ble_eq_true rfl, Nat.le_of_ble_eq_true rfl⟩ rfl rfl (fun w_46 H locs hp_46 hW hz hS => ?_)
        subst w_46
        have hXs := hC.kWS (Y := r_lp 240 ((rs r_15).1) (lf (rs r_15).2) ((rs r_15).2.length) Xw) hXs
        have hXw : rowAt (rowSet w wk wkI cI 240 (r_lp 240 ((rs r_15).1) (lf (rs r_15).2) ((rs r_15).2.length) Xw)) wk wkI cI 240 (r_lp 240 ((rs r_15).1) (lf (rs r_15).2) ((rs r_15).2.length) Xw) := rowSet_at hXw.ne r_lp_le (by omega)
        have hC := hC.work (r_lp 240 ((rs r_15).1) (lf (rs r_15).2) ((rs r_15).2.length) Xw) hXw.2.2.1
        have hXc_46 := hXw.2.2.1
        refine lv_aload_n hx hb dX2_points_49 rfl (lv_at hl 1 rfl) ?_
        refine lv_aload_n hx hb dX2_points_50 rfl (lv_at hl 1 rfl) ?_
        refine wd_get (ci := 2) (v := .ref wk) (C := RX2) (T := TX2) (N := 8) hx hb hts (by decide +kernel) hown hK.1 hW hC.1 rfl 4 (by decide) (hts (.fieldLink RX2 31 "CharRows" "work" "LCharRows$Row;") (by decide +kernel)) (fun _ h9 => h9) rfl dX2_points_51 ?_
        refine wd_get (ci := 0) (v := .int (nI ((r_lp 240 ((rs r_15).1) (lf (rs r_15).2) ((rs r_15).2.length) Xw).2))) (C := RX0) (T := TX0) (N := 2) hx hb hts (by decide +kernel) hown hK.1 hW hXw.1 rfl 1 (by decide) (hts (.fieldLink RX2 48 "CharRows$Row" "count" "I") (by decide +kernel)) (fun _ h9 => h9) rfl dX2_points_54 ?_
        refine wd_callVi (As := [.int (nI ((r_lp 240 ((rs r_15).1) (lf (rs r_15).2) ((rs r_15).2.length) Xw).2))]) (rest := []) (c2 := 0) (s2 := 0) ⟨hx, hb, hml, hown, hts⟩ (k_X2_done l D cI cT (rowSet w wk wkI cI 240 (r_lp 240 ((rs r_15).1) (lf (rs r_15).2) ((rs r_15).2.length) Xw)) H.size o tA kA (nI kp.length) dr wk sw cd pl (nI ((r_lp 240 ((rs r_15).1) (lf (rs r_15).2) ((rs r_15).2.length) Xw).2)) hC.1) (cwV 1 hts gX2_points_X2_done rfl rfl rfl (by decide +kernel) ⟨Nat.le_of_ble_eq_true rfl, Nat.le_of_ble_eq_true rfl⟩) gK_ok hK hW (wd_recv (ci := 2) hK.1 hW rfl hC.1) hS hA rfl hl.1 rfl (Nat.le_of_ble_eq_true rfl) dX2_points_57 ⟨Nat.le_of_ble_eq_true rfl, Nat.le_of_ble_eq_true rfl⟩ rfl rfl (fun r_57 w_57 H locs hp_57 hW hz hS => ?_)
        obtain ⟨q_r, q_w⟩ := hp_57
        subst r_57
        subst w_57
        have hC := hC.obj 0 pl
        refine wd_iret hx hb hr hlocks hW hS dX2_points_60 ?_
        have e9 : s_points (cd, pl, df, tx, kp, rs) (nI tN) = (nI ((r_lp 240 ((rs r_15).1) (lf (rs r_15).2) ((rs r_15).2.length) Xw).2), 0, pl, df, tx, kp, rs) := by simp only [s_points, if_neg c_4, s_w1, s_no, s_yes, if_neg c_32, hcl_t, htx_15]; rw [show u_pl (rs r_15).1 (rs r_15).2 = rl (r_lp 240 (rs r_15).1 (lf (rs r_15).2) (rs r_15).2.length Xw) from (rl_lp (by omega) (by omega)).symm, rl_len]
        show _ = (s_points (cd, pl, df, tx, kp, rs) (nI tN)).1 ∧ InvC cI cT o (s_points (cd, pl, df, tx, kp, rs) (nI tN)).2 _
        rw [e9]
        exact ⟨rfl, tA, kA, dr, drI, wk, wkI, sw, swI, aT, aI, Xd, hC⟩
      ·
        refine lv_aload_n hx hb dX2_points_35 rfl (lv_at hl 1 rfl) ?_
        refine lv_iconst (v := 2) hx hb dX2_points_36 (by decide) ?_
        refine wd_callVi (As := [.int 2]) (rest := []) (c2 := 0) (s2 := 0) ⟨hx, hb, hml, hown, hts⟩ (k_X2_refuse l D cI cT w H.size o tA kA (nI kp.length) dr wk sw cd pl 2 hC.1) (cwV 1 hts gX2_points_X2_refuse rfl rfl rfl (by decide +kernel) ⟨Nat.le_of_ble_eq_true rfl, Nat.le_of_ble_eq_true rfl⟩) gK_ok hK hW (wd_recv (ci := 2) hK.1 hW rfl hC.1) hS hA rfl hl.1 rfl (Nat.le_of_ble_eq_true rfl) dX2_points_37 ⟨Nat.le_of_ble_eq_true rfl, Nat.le_of_ble_eq_true rfl⟩ rfl rfl (fun r_37 w_37 H locs hp_37 hW hz hS => ?_)
        obtain ⟨q_r, q_w⟩ := hp_37
        subst r_37
        subst w_37
        have hC := hC.obj 2 pl
        refine wd_iret hx hb hr hlocks hW hS dX2_points_40 ?_
        have e9 : s_points (cd, pl, df, tx, kp, rs) (nI tN) = (0, 2, pl, df, tx, kp, rs) := by simp only [s_points, if_neg c_4, s_w1, s_no, s_yes, if_pos c_32, hcl_t, htx_15]
        show _ = (s_points (cd, pl, df, tx, kp, rs) (nI tN)).1 ∧ InvC cI cT o (s_points (cd, pl, df, tx, kp, rs) (nI tN)).2 _
        rw [e9]
        exact ⟨rfl, tA, kA, dr, drI, wk, wkI, sw, swI, aT, aI, Xd, hC⟩
  ·
    have c_4 := j_bn c_4
    refine lv_ldc (v := (-2000000001)) hx hb hown (hts (.constant RX2 47 (-2000000001)) (by decide +kernel)) dX2_points_7 ?_
    refine wd_iret hx hb hr hlocks hW hS dX2_points_9 ?_
    have e9 : s_points (cd, pl, df, tx, kp, rs) t = ((-2000000001), cd, pl, df, tx, kp, rs) := by simp only [s_points, if_pos c_4, s_w1, s_no, s_yes]
    show _ = (s_points (cd, pl, df, tx, kp, rs) t).1 ∧ InvC cI cT o (s_points (cd, pl, df, tx, kp, rs) t).2 _
    rw [e9]
    exact ⟨rfl, tA, kA, dr, drI, wk, wkI, sw, swI, aT, aI, Xd, hC⟩
set_option maxHeartbeats 4000000 in
set_option maxRecDepth 100000 in
theorem k_X2_at (l : Launch) (D : va_G) (cI cT : ClassId) (w : Wd) (sz : Nat) (o : Nat) (cd : Int32) (pl : Int32) (df : List Int32) (tx : Nat → Option Nat) (kp : List Nat) (rs : Rws) (t : Int32) (k : Int32) (hwf : WF (cd, pl, df, tx, kp, rs)) (hI : InvC cI cT o (cd, pl, df, tx, kp, rs) w) : wd_Mi l D vwCl (gK D cI cT) yX2_at wsX2_at (wd_rm 1 0 0) [.ref o, .int t, .int k] w sz (fun r w' => r = (s_at (cd, pl, df, tx, kp, rs) t k).1 ∧ InvC cI cT o (s_at (cd, pl, df, tx, kp, rs) t k).2 w') := by
  refine wd_met (cc := cX2_at) (maxL := 4) (ret := (some .int)) (by decide) rfl (Nat.le_of_ble_eq_true rfl) ?_
  intro pg ev sg mi bl mt cde ls C0 hsz hK hW hl
  obtain ⟨hx, hb, hr, hml, hown, hts, hlocks, hnm⟩ := C0
  subst hsz
  have hown : sg.vm.findClass RX2 = some mi.cls := hown
  have hS : va_S (wd_A w sg.heap.size) sg.heap sg.heap [] := va_S.rf
  have hA : ∀ q, sg.heap.size ≤ q → wd_A w sg.heap.size q := fun q h => Or.inr h
  have hl : lv_has ls 4 [(0, .ref o), (1, .int t), (2, .int k)] := hl
  obtain ⟨tA, kA, dr, drI, wk, wkI, sw, swI, aT, aI, Xd, hC⟩ := hI
  dsimp only at hC
  obtain ⟨Xw, hXw⟩ := hC.2.2.2.2.1
  obtain ⟨Xs, hXs⟩ := hC.2.2.2.2.2.1
  have hXd1 := hC.2.2.2.1.1.2.2.1
  have hdf := hC.2.2.2.1.2
  have hkp : kp.length ≤ 12 := hwf.2.2.1
  have hdl : df.length = Xd.2 := by rw [← hC.2.2.2.1.2, rl_len]
  have hdg : ∀ j, j < df.length → Xd.1 j = lf df j := fun j hj => by rw [← hdf, lf, rl_getD (by omega)]
  refine lv_iload_n hx hb dX2_at_0 rfl (lv_at hl 1 rfl) ?_
  refine wd_callSi (As := [.int t]) (rest := []) (c2 := 0) (s2 := 0) ⟨hx, hb, hml, hown, hts⟩ (k_X2_isNoText l D cI cT w sg.heap.size t ) (va_cwS 1 hts gX2_at_X2_isNoText rfl rfl rfl (by decide +kernel) ⟨Nat.le_of_ble_eq_true rfl, Nat.le_of_ble_eq_true rfl⟩) gK_ok hK hW hS hA rfl hl.1 rfl (Nat.le_of_ble_eq_true rfl) dX2_at_1 ⟨Nat.le_of_ble_eq_true rfl, Nat.le_of_ble_eq_true rfl⟩ rfl rfl (fun r_1 w_1 H locs hp_1 hW hz hS => ?_)
  obtain ⟨q_r, q_w⟩ := hp_1
  subst r_1
  subst w_1
  refine lv_if_eq (tgt := 10) hx hb dX2_at_4 (by decide) (fun c_4 => ?_) (fun c_4 => ?_)
  ·
    have c_4 := j_b0 c_4
    obtain ⟨tN, htN, htE⟩ := nt_spec c_4
    subst htE
    have hcl_t : (nI tN).toNatClampNeg = tN := nI_clamp (by omega)
    refine lv_aload_n hx hb dX2_at_10 rfl (lv_at hl 0 rfl) ?_
    refine wd_get (ci := 2) (v := .ref tA) (C := RX2) (T := TX2) (N := 8) hx hb hts (by decide +kernel) hown hK.1 hW hC.1 rfl 0 (by decide) (hts (.fieldLink RX2 11 "CharRows" "texts" "[LCharRows$Text;") (by decide +kernel)) (fun _ h9 => h9) rfl dX2_at_11 ?_
    refine lv_iload_n hx hb dX2_at_14 rfl (lv_at hl 1 rfl) ?_
    refine wd_aldq hx hb hK.1 hW 1 hC.2.1 rfl (vp_in_nI (by omega) (by omega)) dX2_at_15 ?_
    rw [nI_clamp (by omega)]
    cases htx_15 : tx tN with
    | none =>
      refine wd_topR (y := .null) (by simp [htx_15, va_rf]) ?_
      refine lv_astore_nN (lv' := [(3, .null), (0, .ref o), (1, .int (nI tN)), (2, .int k)]) hx hb dX2_at_16 rfl hl (by decide) rfl (fun ls hl => ?_)
      refine lv_aload_nN hx hb dX2_at_17 rfl (lv_at hl 0 rfl) ?_
      refine lv_ifnonnullN hx hb dX2_at_18 ?_
      refine lv_aload_n hx hb dX2_at_21 rfl (lv_at hl 1 rfl) ?_
      refine lv_iconst (v := 1) hx hb dX2_at_22 (by decide) ?_
      refine wd_callVi (As := [.int 1]) (rest := []) (c2 := 0) (s2 := 0) ⟨hx, hb, hml, hown, hts⟩ (k_X2_refuse l D cI cT w H.size o tA kA (nI kp.length) dr wk sw cd pl 1 hC.1) (cwV 1 hts gX2_at_X2_refuse rfl rfl rfl (by decide +kernel) ⟨Nat.le_of_ble_eq_true rfl, Nat.le_of_ble_eq_true rfl⟩) gK_ok hK hW (wd_recv (ci := 2) hK.1 hW rfl hC.1) hS hA rfl hl.1 rfl (Nat.le_of_ble_eq_true rfl) dX2_at_23 ⟨Nat.le_of_ble_eq_true rfl, Nat.le_of_ble_eq_true rfl⟩ rfl rfl (fun r_23 w_23 H locs hp_23 hW hz hS => ?_)
      obtain ⟨q_r, q_w⟩ := hp_23
      subst r_23
      subst w_23
      have hC := hC.obj 1 pl
      refine wd_iret hx hb hr hlocks hW hS dX2_at_26 ?_
      have e9 : s_at (cd, pl, df, tx, kp, rs) (nI tN) k = (0, 1, pl, df, tx, kp, rs) := by simp only [s_at, if_neg c_4, s_w1, s_no, s_yes, hcl_t, htx_15]
      show _ = (s_at (cd, pl, df, tx, kp, rs) (nI tN) k).1 ∧ InvC cI cT o (s_at (cd, pl, df, tx, kp, rs) (nI tN) k).2 _
      rw [e9]
      exact ⟨rfl, tA, kA, dr, drI, wk, wkI, sw, swI, aT, aI, Xd, hC⟩
    | some r_15 =>
      refine wd_topR (y := .ref (aT r_15)) (by simp [htx_15, va_rf]) ?_
      have hl_15 : live tx kp r_15 := Or.inl ⟨_, htx_15⟩
      have hok_15 : rOK (rs r_15) := (hwf.2.2.2.1 r_15 hl_15).2
      have hlen_15 := hok_15.len
      refine lv_astore_n (lv' := [(3, .ref (aT r_15)), (0, .ref o), (1, .int (nI tN)), (2, .int k)]) hx hb dX2_at_16 rfl hl (by decide) rfl (fun ls hl => ?_)
      refine lv_aload_n hx hb dX2_at_17 rfl (lv_at hl 0 rfl) ?_
      refine lv_ifnonnull (tgt := 27) hx hb dX2_at_18 (by decide) ?_
      refine lv_iload_n hx hb dX2_at_27 rfl (lv_at hl 3 rfl) ?_
      refine lv_if_lt (tgt := 40) hx hb dX2_at_28 (by decide) (fun c_28 => ?_) (fun c_28 => ?_)
      ·
        refine lv_aload_n hx hb dX2_at_40 rfl (lv_at hl 1 rfl) ?_
        refine lv_iconst (v := 3) hx hb dX2_at_41 (by decide) ?_
        refine wd_callVi (As := [.int 3]) (rest := []) (c2 := 0) (s2 := 0) ⟨hx, hb, hml, hown, hts⟩ (k_X2_refuse l D cI cT w H.size o tA kA (nI kp.length) dr wk sw cd pl 3 hC.1) (cwV 1 hts gX2_at_X2_refuse rfl rfl rfl (by decide +kernel) ⟨Nat.le_of_ble_eq_true rfl, Nat.le_of_ble_eq_true rfl⟩) gK_ok hK hW (wd_recv (ci := 2) hK.1 hW rfl hC.1) hS hA rfl hl.1 rfl (Nat.le_of_ble_eq_true rfl) dX2_at_42 ⟨Nat.le_of_ble_eq_true rfl, Nat.le_of_ble_eq_true rfl⟩ rfl rfl (fun r_42 w_42 H locs hp_42 hW hz hS => ?_)
        obtain ⟨q_r, q_w⟩ := hp_42
        subst r_42
        subst w_42
        have hC := hC.obj 3 pl
        refine wd_iret hx hb hr hlocks hW hS dX2_at_45 ?_
        have e9 : s_at (cd, pl, df, tx, kp, rs) (nI tN) k = (0, 3, pl, df, tx, kp, rs) := by simp only [s_at, if_neg c_4, s_w1, s_no, s_yes, if_pos (out_neg c_28), hcl_t, htx_15]
        show _ = (s_at (cd, pl, df, tx, kp, rs) (nI tN) k).1 ∧ InvC cI cT o (s_at (cd, pl, df, tx, kp, rs) (nI tN) k).2 _
        rw [e9]
        exact ⟨rfl, tA, kA, dr, drI, wk, wkI, sw, swI, aT, aI, Xd, hC⟩
      ·
        obtain ⟨kN, hkN, hkE⟩ := nI_of c_28
        subst hkE
        have hcl_k : (nI kN).toNatClampNeg = kN := nI_clamp (by omega)
        refine lv_iload_n hx hb dX2_at_31 rfl (lv_at hl 3 rfl) ?_
        refine lv_aload_n hx hb dX2_at_32 rfl (lv_at hl 0 rfl) ?_
        refine wd_get (ci := 1) (v := .ref (aI r_15)) (C := RX1) (T := TX1) (N := 2) hx hb hts (by decide +kernel) hown hK.1 hW (hC.2.2.2.2.2.2.2.1 r_15 hl_15).1 rfl 1 (by decide) (hts (.fieldLink RX2 93 "CharRows$Text" "items" "[I") (by decide +kernel)) (fun _ h9 => h9) rfl dX2_at_33 ?_
        refine wd_alen hx hb hK.1 hW 0 (hC.2.2.2.2.2.2.2.1 r_15 hl_15).2.1 rfl dX2_at_36 ?_
        refine lv_icmp_lt (tgt := 46) hx hb dX2_at_37 (by decide) (fun c_37 => ?_) (fun c_37 => ?_)
        ·
          have c_37 : kN < (rs r_15).2.length := (nI_ltI (by omega) (by omega)).mp (show (nI kN < nI ((rs r_15).2.length)) from c_37)
          refine lv_aload_n hx hb dX2_at_46 rfl (lv_at hl 1 rfl) ?_
          refine lv_aload_n hx hb dX2_at_47 rfl (lv_at hl 0 rfl) ?_
          refine wd_get (ci := 1) (v := .ref (aI r_15)) (C := RX1) (T := TX1) (N := 2) hx hb hts (by decide +kernel) hown hK.1 hW (hC.2.2.2.2.2.2.2.1 r_15 hl_15).1 rfl 1 (by decide) (hts (.fieldLink RX2 93 "CharRows$Text" "items" "[I") (by decide +kernel)) (fun _ h9 => h9) rfl dX2_at_48 ?_
          refine lv_iload_n hx hb dX2_at_51 rfl (lv_at hl 3 rfl) ?_
          refine wd_iald hx hb hK.1 hW 0 (hC.2.2.2.2.2.2.2.1 r_15 hl_15).2.1 rfl (vp_in_nI (by omega) (by omega)) dX2_at_52 ?_
          refine wd_topE (y := (lf (rs r_15).2) kN) (by rw [nI_clamp (by omega)]) ?_
          refine wd_callVi (As := [.int ((lf (rs r_15).2) kN)]) (rest := []) (c2 := 0) (s2 := 0) ⟨hx, hb, hml, hown, hts⟩ (k_X2_done l D cI cT w H.size o tA kA (nI kp.length) dr wk sw cd pl ((lf (rs r_15).2) kN) hC.1) (cwV 1 hts gX2_at_X2_done rfl rfl rfl (by decide +kernel) ⟨Nat.le_of_ble_eq_true rfl, Nat.le_of_ble_eq_true rfl⟩) gK_ok hK hW (wd_recv (ci := 2) hK.1 hW rfl hC.1) hS hA rfl hl.1 rfl (Nat.le_of_ble_eq_true rfl) dX2_at_53 ⟨Nat.le_of_ble_eq_true rfl, Nat.le_of_ble_eq_true rfl⟩ rfl rfl (fun r_53 w_53 H locs hp_53 hW hz hS => ?_)
          obtain ⟨q_r, q_w⟩ := hp_53
          subst r_53
          subst w_53
          have hC := hC.obj 0 pl
          refine wd_iret hx hb hr hlocks hW hS dX2_at_56 ?_
          have e9 : s_at (cd, pl, df, tx, kp, rs) (nI tN) (nI kN) = ((lf (rs r_15).2) kN, 0, pl, df, tx, kp, rs) := by simp only [s_at, if_neg c_4, s_w1, s_no, s_yes, if_neg (out_no (k := kN) (n := (rs r_15).2.length) (by omega) (by omega)), hcl_t, hcl_k, htx_15]
          show _ = (s_at (cd, pl, df, tx, kp, rs) (nI tN) (nI kN)).1 ∧ InvC cI cT o (s_at (cd, pl, df, tx, kp, rs) (nI tN) (nI kN)).2 _
          rw [e9]
          exact ⟨rfl, tA, kA, dr, drI, wk, wkI, sw, swI, aT, aI, Xd, hC⟩
        ·
          have c_37 : ¬ (kN < (rs r_15).2.length) := fun q9 => absurd ((nI_ltI (by omega) (by omega)).mpr q9) (show ¬ (nI kN < nI ((rs r_15).2.length)) from c_37)
          refine lv_aload_n hx hb dX2_at_40 rfl (lv_at hl 1 rfl) ?_
          refine lv_iconst (v := 3) hx hb dX2_at_41 (by decide) ?_
          refine wd_callVi (As := [.int 3]) (rest := []) (c2 := 0) (s2 := 0) ⟨hx, hb, hml, hown, hts⟩ (k_X2_refuse l D cI cT w H.size o tA kA (nI kp.length) dr wk sw cd pl 3 hC.1) (cwV 1 hts gX2_at_X2_refuse rfl rfl rfl (by decide +kernel) ⟨Nat.le_of_ble_eq_true rfl, Nat.le_of_ble_eq_true rfl⟩) gK_ok hK hW (wd_recv (ci := 2) hK.1 hW rfl hC.1) hS hA rfl hl.1 rfl (Nat.le_of_ble_eq_true rfl) dX2_at_42 ⟨Nat.le_of_ble_eq_true rfl, Nat.le_of_ble_eq_true rfl⟩ rfl rfl (fun r_42 w_42 H locs hp_42 hW hz hS => ?_)
          obtain ⟨q_r, q_w⟩ := hp_42
          subst r_42
          subst w_42
          have hC := hC.obj 3 pl
          refine wd_iret hx hb hr hlocks hW hS dX2_at_45 ?_
          have e9 : s_at (cd, pl, df, tx, kp, rs) (nI tN) (nI kN) = (0, 3, pl, df, tx, kp, rs) := by simp only [s_at, if_neg c_4, s_w1, s_no, s_yes, if_pos (out_yes (k := kN) (n := (rs r_15).2.length) (by omega) (by omega)), hcl_t, hcl_k, htx_15]
          show _ = (s_at (cd, pl, df, tx, kp, rs) (nI tN) (nI kN)).1 ∧ InvC cI cT o (s_at (cd, pl, df, tx, kp, rs) (nI tN) (nI kN)).2 _
          rw [e9]
          exact ⟨rfl, tA, kA, dr, drI, wk, wkI, sw, swI, aT, aI, Xd, hC⟩
  ·
    have c_4 := j_bn c_4
    refine lv_ldc (v := (-2000000001)) hx hb hown (hts (.constant RX2 47 (-2000000001)) (by decide +kernel)) dX2_at_7 ?_
    refine wd_iret hx hb hr hlocks hW hS dX2_at_9 ?_
    have e9 : s_at (cd, pl, df, tx, kp, rs) t k = ((-2000000001), cd, pl, df, tx, kp, rs) := by simp only [s_at, if_pos c_4, s_w1, s_no, s_yes]
    show _ = (s_at (cd, pl, df, tx, kp, rs) t k).1 ∧ InvC cI cT o (s_at (cd, pl, df, tx, kp, rs) t k).2 _
    rw [e9]
    exact ⟨rfl, tA, kA, dr, drI, wk, wkI, sw, swI, aT, aI, Xd, hC⟩
set_option maxHeartbeats 4000000 in
set_option maxRecDepth 100000 in
theorem k_X2_pointAt (l : Launch) (D : va_G) (cI cT : ClassId) (w : Wd) (sz : Nat) (o : Nat) (cd : Int32) (pl : Int32) (df : List Int32) (tx : Nat → Option Nat) (kp : List Nat) (rs : Rws) (t : Int32) (k : Int32) (hwf : WF (cd, pl, df, tx, kp, rs)) (hI : InvC cI cT o (cd, pl, df, tx, kp, rs) w) : wd_Mi l D vwCl (gK D cI cT) yX2_pointAt wsX2_pointAt (wd_rm 4 0 0) [.ref o, .int t, .int k] w sz (fun r w' => r = (s_pointAt (cd, pl, df, tx, kp, rs) t k).1 ∧ InvC cI cT o (s_pointAt (cd, pl, df, tx, kp, rs) t k).2 w') := by
  refine wd_met (cc := cX2_pointAt) (maxL := 4) (ret := (some .int)) (by decide) rfl (Nat.le_of_ble_eq_true rfl) ?_
  intro pg ev sg mi bl mt cde ls C0 hsz hK hW hl
  obtain ⟨hx, hb, hr, hml, hown, hts, hlocks, hnm⟩ := C0
  subst hsz
  have hown : sg.vm.findClass RX2 = some mi.cls := hown
  have hS : va_S (wd_A w sg.heap.size) sg.heap sg.heap [] := va_S.rf
  have hA : ∀ q, sg.heap.size ≤ q → wd_A w sg.heap.size q := fun q h => Or.inr h
  have hl : lv_has ls 4 [(0, .ref o), (1, .int t), (2, .int k)] := hl
  obtain ⟨tA, kA, dr, drI, wk, wkI, sw, swI, aT, aI, Xd, hC⟩ := hI
  dsimp only at hC
  obtain ⟨Xw, hXw⟩ := hC.2.2.2.2.1
  obtain ⟨Xs, hXs⟩ := hC.2.2.2.2.2.1
  have hXd1 := hC.2.2.2.1.1.2.2.1
  have hdf := hC.2.2.2.1.2
  have hkp : kp.length ≤ 12 := hwf.2.2.1
  have hdl : df.length = Xd.2 := by rw [← hC.2.2.2.1.2, rl_len]
  have hdg : ∀ j, j < df.length → Xd.1 j = lf df j := fun j hj => by rw [← hdf, lf, rl_getD (by omega)]
  refine lv_iload_n hx hb dX2_pointAt_0 rfl (lv_at hl 1 rfl) ?_
  refine wd_callSi (As := [.int t]) (rest := []) (c2 := 0) (s2 := 0) ⟨hx, hb, hml, hown, hts⟩ (k_X2_isNoText l D cI cT w sg.heap.size t ) (va_cwS 1 hts gX2_pointAt_X2_isNoText rfl rfl rfl (by decide +kernel) ⟨Nat.le_of_ble_eq_true rfl, Nat.le_of_ble_eq_true rfl⟩) gK_ok hK hW hS hA rfl hl.1 rfl (Nat.le_of_ble_eq_true rfl) dX2_pointAt_1 ⟨Nat.le_of_ble_eq_true rfl, Nat.le_of_ble_eq_true rfl⟩ rfl rfl (fun r_1 w_1 H locs hp_1 hW hz hS => ?_)
  obtain ⟨q_r, q_w⟩ := hp_1
  subst r_1
  subst w_1
  refine lv_if_eq (tgt := 10) hx hb dX2_pointAt_4 (by decide) (fun c_4 => ?_) (fun c_4 => ?_)
  ·
    have c_4 := j_b0 c_4
    obtain ⟨tN, htN, htE⟩ := nt_spec c_4
    subst htE
    have hcl_t : (nI tN).toNatClampNeg = tN := nI_clamp (by omega)
    refine lv_aload_n hx hb dX2_pointAt_10 rfl (lv_at hl 0 rfl) ?_
    refine wd_get (ci := 2) (v := .ref tA) (C := RX2) (T := TX2) (N := 8) hx hb hts (by decide +kernel) hown hK.1 hW hC.1 rfl 0 (by decide) (hts (.fieldLink RX2 11 "CharRows" "texts" "[LCharRows$Text;") (by decide +kernel)) (fun _ h9 => h9) rfl dX2_pointAt_11 ?_
    refine lv_iload_n hx hb dX2_pointAt_14 rfl (lv_at hl 1 rfl) ?_
    refine wd_aldq hx hb hK.1 hW 1 hC.2.1 rfl (vp_in_nI (by omega) (by omega)) dX2_pointAt_15 ?_
    rw [nI_clamp (by omega)]
    cases htx_15 : tx tN with
    | none =>
      refine wd_topR (y := .null) (by simp [htx_15, va_rf]) ?_
      refine lv_astore_nN (lv' := [(3, .null), (0, .ref o), (1, .int (nI tN)), (2, .int k)]) hx hb dX2_pointAt_16 rfl hl (by decide) rfl (fun ls hl => ?_)
      refine lv_aload_nN hx hb dX2_pointAt_17 rfl (lv_at hl 0 rfl) ?_
      refine lv_ifnonnullN hx hb dX2_pointAt_18 ?_
      refine lv_aload_n hx hb dX2_pointAt_21 rfl (lv_at hl 1 rfl) ?_
      refine lv_iconst (v := 1) hx hb dX2_pointAt_22 (by decide) ?_
      refine wd_callVi (As := [.int 1]) (rest := []) (c2 := 0) (s2 := 0) ⟨hx, hb, hml, hown, hts⟩ (k_X2_refuse l D cI cT w H.size o tA kA (nI kp.length) dr wk sw cd pl 1 hC.1) (cwV 1 hts gX2_pointAt_X2_refuse rfl rfl rfl (by decide +kernel) ⟨Nat.le_of_ble_eq_true rfl, Nat.le_of_ble_eq_true rfl⟩) gK_ok hK hW (wd_recv (ci := 2) hK.1 hW rfl hC.1) hS hA rfl hl.1 rfl (Nat.le_of_ble_eq_true rfl) dX2_pointAt_23 ⟨Nat.le_of_ble_eq_true rfl, Nat.le_of_ble_eq_true rfl⟩ rfl rfl (fun r_23 w_23 H locs hp_23 hW hz hS => ?_)
      obtain ⟨q_r, q_w⟩ := hp_23
      subst r_23
      subst w_23
      have hC := hC.obj 1 pl
      refine wd_iret hx hb hr hlocks hW hS dX2_pointAt_26 ?_
      have e9 : s_pointAt (cd, pl, df, tx, kp, rs) (nI tN) k = (0, 1, pl, df, tx, kp, rs) := by simp only [s_pointAt, if_neg c_4, s_w1, s_no, s_yes, hcl_t, htx_15]
      show _ = (s_pointAt (cd, pl, df, tx, kp, rs) (nI tN) k).1 ∧ InvC cI cT o (s_pointAt (cd, pl, df, tx, kp, rs) (nI tN) k).2 _
      rw [e9]
      exact ⟨rfl, tA, kA, dr, drI, wk, wkI, sw, swI, aT, aI, Xd, hC⟩
    | some r_15 =>
      refine wd_topR (y := .ref (aT r_15)) (by simp [htx_15, va_rf]) ?_
      have hl_15 : live tx kp r_15 := Or.inl ⟨_, htx_15⟩
      have hok_15 : rOK (rs r_15) := (hwf.2.2.2.1 r_15 hl_15).2
      have hlen_15 := hok_15.len
      refine lv_astore_n (lv' := [(3, .ref (aT r_15)), (0, .ref o), (1, .int (nI tN)), (2, .int k)]) hx hb dX2_pointAt_16 rfl hl (by decide) rfl (fun ls hl => ?_)
      refine lv_aload_n hx hb dX2_pointAt_17 rfl (lv_at hl 0 rfl) ?_
      refine lv_ifnonnull (tgt := 27) hx hb dX2_pointAt_18 (by decide) ?_
      refine lv_aload_n hx hb dX2_pointAt_27 rfl (lv_at hl 0 rfl) ?_
      refine wd_get (ci := 1) (v := .int ((rs r_15).1)) (C := RX1) (T := TX1) (N := 2) hx hb hts (by decide +kernel) hown hK.1 hW (hC.2.2.2.2.2.2.2.1 r_15 hl_15).1 rfl 0 (by decide) (hts (.fieldLink RX2 94 "CharRows$Text" "kindOfItems" "I") (by decide +kernel)) (fun _ h9 => h9) rfl dX2_pointAt_28 ?_
      refine lv_iconst (v := 2) hx hb dX2_pointAt_31 (by decide) ?_
      refine lv_icmp_ne (tgt := 41) hx hb dX2_pointAt_32 (by decide) (fun c_32 => ?_) (fun c_32 => ?_)
      ·
        refine lv_aload_n hx hb dX2_pointAt_41 rfl (lv_at hl 0 rfl) ?_
        refine lv_aload_n hx hb dX2_pointAt_42 rfl (lv_at hl 1 rfl) ?_
        refine wd_get (ci := 2) (v := .ref wk) (C := RX2) (T := TX2) (N := 8) hx hb hts (by decide +kernel) hown hK.1 hW hC.1 rfl 4 (by decide) (hts (.fieldLink RX2 31 "CharRows" "work" "LCharRows$Row;") (by decide +kernel)) (fun _ h9 => h9) rfl dX2_pointAt_43 ?_
        refine wd_callSv (As := [.ref (aT r_15), .ref wk]) (rest := []) (c2 := 0) (s2 := 0) ⟨hx, hb, hml, hown, hts⟩ (k_X2_listPoints l D cI cT w H.size (aT r_15) (aI r_15) ((rs r_15).1) ((rs r_15).2.length) (lf (rs r_15).2) wk wkI 240 Xw (⟨(hC.2.2.2.2.2.2.2.1 r_15 hl_15).1, (hC.2.2.2.2.2.2.2.1 r_15 hl_15).2.1, by omega⟩) hXw ((hC.2.2.2.2.2.2.2.1 r_15 hl_15).2.2.2.1)) (va_cwS 2 hts gX2_pointAt_X2_listPoints rfl rfl rfl (by decide +kernel) ⟨Nat.le_of_ble_eq_true rfl, Nat.le_of_ble_eq_true rfl⟩) gK_ok hK hW hS hA rfl hl.1 rfl (Nat.le_of_ble_eq_true rfl) dX2_pointAt_46 ⟨Nat.le_of_ble_eq_true rfl, Nat.le_of_ble_eq_true rfl⟩ rfl rfl (fun w_46 H locs hp_46 hW hz hS => ?_)
        subst w_46
        have hXs := hC.kWS (Y := r_lp 240 ((rs r_15).1) (lf (rs r_15).2) ((rs r_15).2.length) Xw) hXs
        have hXw : rowAt (rowSet w wk wkI cI 240 (r_lp 240 ((rs r_15).1) (lf (rs r_15).2) ((rs r_15).2.length) Xw)) wk wkI cI 240 (r_lp 240 ((rs r_15).1) (lf (rs r_15).2) ((rs r_15).2.length) Xw) := rowSet_at hXw.ne r_lp_le (by omega)
        have hC := hC.work (r_lp 240 ((rs r_15).1) (lf (rs r_15).2) ((rs r_15).2.length) Xw) hXw.2.2.1
        have hXc_46 := hXw.2.2.1
        have hcnt : (u_pl (rs r_15).1 (rs r_15).2).length = (r_lp 240 (rs r_15).1 (lf (rs r_15).2) (rs r_15).2.length Xw).2 := by rw [← rl_lp (n := 240) (X := Xw) (by omega) (by omega), rl_len]
        refine lv_iload_n hx hb dX2_pointAt_49 rfl (lv_at hl 3 rfl) ?_
        refine lv_if_lt (tgt := 76) hx hb dX2_pointAt_50 (by decide) (fun c_50 => ?_) (fun c_50 => ?_)
        ·
          refine lv_aload_n hx hb dX2_pointAt_76 rfl (lv_at hl 1 rfl) ?_
          refine lv_iconst (v := 3) hx hb dX2_pointAt_77 (by decide) ?_
          refine wd_callVi (As := [.int 3]) (rest := []) (c2 := 0) (s2 := 0) ⟨hx, hb, hml, hown, hts⟩ (k_X2_refuse l D cI cT (rowSet w wk wkI cI 240 (r_lp 240 ((rs r_15).1) (lf (rs r_15).2) ((rs r_15).2.length) Xw)) H.size o tA kA (nI kp.length) dr wk sw cd pl 3 hC.1) (cwV 1 hts gX2_pointAt_X2_refuse rfl rfl rfl (by decide +kernel) ⟨Nat.le_of_ble_eq_true rfl, Nat.le_of_ble_eq_true rfl⟩) gK_ok hK hW (wd_recv (ci := 2) hK.1 hW rfl hC.1) hS hA rfl hl.1 rfl (Nat.le_of_ble_eq_true rfl) dX2_pointAt_78 ⟨Nat.le_of_ble_eq_true rfl, Nat.le_of_ble_eq_true rfl⟩ rfl rfl (fun r_78 w_78 H locs hp_78 hW hz hS => ?_)
          obtain ⟨q_r, q_w⟩ := hp_78
          subst r_78
          subst w_78
          have hC := hC.obj 3 pl
          refine wd_iret hx hb hr hlocks hW hS dX2_pointAt_81 ?_
          have e9 : s_pointAt (cd, pl, df, tx, kp, rs) (nI tN) k = (0, 3, pl, df, tx, kp, rs) := by simp only [s_pointAt, if_neg c_4, s_w1, s_no, s_yes, if_neg c_32, if_pos (out_neg c_50), hcl_t, htx_15]
          show _ = (s_pointAt (cd, pl, df, tx, kp, rs) (nI tN) k).1 ∧ InvC cI cT o (s_pointAt (cd, pl, df, tx, kp, rs) (nI tN) k).2 _
          rw [e9]
          exact ⟨rfl, tA, kA, dr, drI, wk, wkI, sw, swI, aT, aI, Xd, hC⟩
        ·
          obtain ⟨kN, hkN, hkE⟩ := nI_of c_50
          subst hkE
          have hcl_k : (nI kN).toNatClampNeg = kN := nI_clamp (by omega)
          refine lv_iload_n hx hb dX2_pointAt_53 rfl (lv_at hl 3 rfl) ?_
          refine lv_aload_n hx hb dX2_pointAt_54 rfl (lv_at hl 1 rfl) ?_
          refine wd_get (ci := 2) (v := .ref wk) (C := RX2) (T := TX2) (N := 8) hx hb hts (by decide +kernel) hown hK.1 hW hC.1 rfl 4 (by decide) (hts (.fieldLink RX2 31 "CharRows" "work" "LCharRows$Row;") (by decide +kernel)) (fun _ h9 => h9) rfl dX2_pointAt_55 ?_
          refine wd_get (ci := 0) (v := .int (nI ((r_lp 240 ((rs r_15).1) (lf (rs r_15).2) ((rs r_15).2.length) Xw).2))) (C := RX0) (T := TX0) (N := 2) hx hb hts (by decide +kernel) hown hK.1 hW hXw.1 rfl 1 (by decide) (hts (.fieldLink RX2 48 "CharRows$Row" "count" "I") (by decide +kernel)) (fun _ h9 => h9) rfl dX2_pointAt_58 ?_
          refine lv_icmp_ge (tgt := 76) hx hb dX2_pointAt_61 (by decide) (fun c_61 => ?_) (fun c_61 => ?_)
          ·
            have c_61 : (r_lp 240 ((rs r_15).1) (lf (rs r_15).2) ((rs r_15).2.length) Xw).2 ≤ kN := (nI_leI (by omega) (by omega)).mp (show (nI ((r_lp 240 ((rs r_15).1) (lf (rs r_15).2) ((rs r_15).2.length) Xw).2) ≤ nI kN) from c_61)
            refine lv_aload_n hx hb dX2_pointAt_76 rfl (lv_at hl 1 rfl) ?_
            refine lv_iconst (v := 3) hx hb dX2_pointAt_77 (by decide) ?_
            refine wd_callVi (As := [.int 3]) (rest := []) (c2 := 0) (s2 := 0) ⟨hx, hb, hml, hown, hts⟩ (k_X2_refuse l D cI cT (rowSet w wk wkI cI 240 (r_lp 240 ((rs r_15).1) (lf (rs r_15).2) ((rs r_15).2.length) Xw)) H.size o tA kA (nI kp.length) dr wk sw cd pl 3 hC.1) (cwV 1 hts gX2_pointAt_X2_refuse rfl rfl rfl (by decide +kernel) ⟨Nat.le_of_ble_eq_true rfl, Nat.le_of_ble_eq_true rfl⟩) gK_ok hK hW (wd_recv (ci := 2) hK.1 hW rfl hC.1) hS hA rfl hl.1 rfl (Nat.le_of_ble_eq_true rfl) dX2_pointAt_78 ⟨Nat.le_of_ble_eq_true rfl, Nat.le_of_ble_eq_true rfl⟩ rfl rfl (fun r_78 w_78 H locs hp_78 hW hz hS => ?_)
            obtain ⟨q_r, q_w⟩ := hp_78
            subst r_78
            subst w_78
            have hC := hC.obj 3 pl
            refine wd_iret hx hb hr hlocks hW hS dX2_pointAt_81 ?_
            have e9 : s_pointAt (cd, pl, df, tx, kp, rs) (nI tN) (nI kN) = (0, 3, pl, df, tx, kp, rs) := by simp only [s_pointAt, if_neg c_4, s_w1, s_no, s_yes, if_neg c_32, if_pos (out_yes (k := kN) (n := (u_pl (rs r_15).1 (rs r_15).2).length) (by omega) (by omega)), hcl_t, hcl_k, htx_15]
            show _ = (s_pointAt (cd, pl, df, tx, kp, rs) (nI tN) (nI kN)).1 ∧ InvC cI cT o (s_pointAt (cd, pl, df, tx, kp, rs) (nI tN) (nI kN)).2 _
            rw [e9]
            exact ⟨rfl, tA, kA, dr, drI, wk, wkI, sw, swI, aT, aI, Xd, hC⟩
          ·
            have c_61 : ¬ ((r_lp 240 ((rs r_15).1) (lf (rs r_15).2) ((rs r_15).2.length) Xw).2 ≤ kN) := fun q9 => absurd ((nI_leI (by omega) (by omega)).mpr q9) (show ¬ (nI ((r_lp 240 ((rs r_15).1) (lf (rs r_15).2) ((rs r_15).2.length) Xw).2) ≤ nI kN) from c_61)
            refine lv_iload_n hx hb dX2_pointAt_64 rfl (lv_at hl 3 rfl) ?_
            refine lv_aload_n hx hb dX2_pointAt_65 rfl (lv_at hl 1 rfl) ?_
            refine wd_get (ci := 2) (v := .ref wk) (C := RX2) (T := TX2) (N := 8) hx hb hts (by decide +kernel) hown hK.1 hW hC.1 rfl 4 (by decide) (hts (.fieldLink RX2 31 "CharRows" "work" "LCharRows$Row;") (by decide +kernel)) (fun _ h9 => h9) rfl dX2_pointAt_66 ?_
            refine wd_get (ci := 0) (v := .ref wkI) (C := RX0) (T := TX0) (N := 2) hx hb hts (by decide +kernel) hown hK.1 hW hXw.1 rfl 0 (by decide) (hts (.fieldLink RX2 74 "CharRows$Row" "items" "[I") (by decide +kernel)) (fun _ h9 => h9) rfl dX2_pointAt_69 ?_
            refine wd_alen hx hb hK.1 hW 0 hXw.2.1 rfl dX2_pointAt_72 ?_
            refine lv_icmp_lt (tgt := 82) hx hb dX2_pointAt_73 (by decide) (fun c_73 => ?_) (fun c_73 => ?_)
            ·
              have c_73 : kN < 240 := (nI_ltI (by omega) (by omega)).mp (show (nI kN < nI 240) from c_73)
              refine lv_aload_n hx hb dX2_pointAt_82 rfl (lv_at hl 1 rfl) ?_
              refine lv_aload_n hx hb dX2_pointAt_83 rfl (lv_at hl 1 rfl) ?_
              refine wd_get (ci := 2) (v := .ref wk) (C := RX2) (T := TX2) (N := 8) hx hb hts (by decide +kernel) hown hK.1 hW hC.1 rfl 4 (by decide) (hts (.fieldLink RX2 31 "CharRows" "work" "LCharRows$Row;") (by decide +kernel)) (fun _ h9 => h9) rfl dX2_pointAt_84 ?_
              refine wd_get (ci := 0) (v := .ref wkI) (C := RX0) (T := TX0) (N := 2) hx hb hts (by decide +kernel) hown hK.1 hW hXw.1 rfl 0 (by decide) (hts (.fieldLink RX2 74 "CharRows$Row" "items" "[I") (by decide +kernel)) (fun _ h9 => h9) rfl dX2_pointAt_87 ?_
              refine lv_iload_n hx hb dX2_pointAt_90 rfl (lv_at hl 3 rfl) ?_
              refine wd_iald hx hb hK.1 hW 0 hXw.2.1 rfl (vp_in_nI (by omega) (by omega)) dX2_pointAt_91 ?_
              refine wd_topE (y := (r_lp 240 ((rs r_15).1) (lf (rs r_15).2) ((rs r_15).2.length) Xw).1 kN) (by rw [nI_clamp (by omega)]) ?_
              refine wd_callVi (As := [.int ((r_lp 240 ((rs r_15).1) (lf (rs r_15).2) ((rs r_15).2.length) Xw).1 kN)]) (rest := []) (c2 := 0) (s2 := 0) ⟨hx, hb, hml, hown, hts⟩ (k_X2_done l D cI cT (rowSet w wk wkI cI 240 (r_lp 240 ((rs r_15).1) (lf (rs r_15).2) ((rs r_15).2.length) Xw)) H.size o tA kA (nI kp.length) dr wk sw cd pl ((r_lp 240 ((rs r_15).1) (lf (rs r_15).2) ((rs r_15).2.length) Xw).1 kN) hC.1) (cwV 1 hts gX2_pointAt_X2_done rfl rfl rfl (by decide +kernel) ⟨Nat.le_of_ble_eq_true rfl, Nat.le_of_ble_eq_true rfl⟩) gK_ok hK hW (wd_recv (ci := 2) hK.1 hW rfl hC.1) hS hA rfl hl.1 rfl (Nat.le_of_ble_eq_true rfl) dX2_pointAt_92 ⟨Nat.le_of_ble_eq_true rfl, Nat.le_of_ble_eq_true rfl⟩ rfl rfl (fun r_92 w_92 H locs hp_92 hW hz hS => ?_)
              obtain ⟨q_r, q_w⟩ := hp_92
              subst r_92
              subst w_92
              have hC := hC.obj 0 pl
              refine wd_iret hx hb hr hlocks hW hS dX2_pointAt_95 ?_
              have e9 : s_pointAt (cd, pl, df, tx, kp, rs) (nI tN) (nI kN) = ((r_lp 240 ((rs r_15).1) (lf (rs r_15).2) ((rs r_15).2.length) Xw).1 kN, 0, pl, df, tx, kp, rs) := by simp only [s_pointAt, if_neg c_4, s_w1, s_no, s_yes, if_neg c_32, if_neg (out_no (k := kN) (n := (u_pl (rs r_15).1 (rs r_15).2).length) (by omega) (by omega)), hcl_t, hcl_k, htx_15]; rw [← rl_lp (n := 240) (X := Xw) (by omega) (by omega), lf, rl_getD (by omega)]
              show _ = (s_pointAt (cd, pl, df, tx, kp, rs) (nI tN) (nI kN)).1 ∧ InvC cI cT o (s_pointAt (cd, pl, df, tx, kp, rs) (nI tN) (nI kN)).2 _
              rw [e9]
              exact ⟨rfl, tA, kA, dr, drI, wk, wkI, sw, swI, aT, aI, Xd, hC⟩
            ·
              exact absurd (nI_lt (show kN < 240 by have := hXw.2.2.1; omega) (by omega)) c_73
      ·
        refine lv_aload_n hx hb dX2_pointAt_35 rfl (lv_at hl 1 rfl) ?_
        refine lv_iconst (v := 2) hx hb dX2_pointAt_36 (by decide) ?_
        refine wd_callVi (As := [.int 2]) (rest := []) (c2 := 0) (s2 := 0) ⟨hx, hb, hml, hown, hts⟩ (k_X2_refuse l D cI cT w H.size o tA kA (nI kp.length) dr wk sw cd pl 2 hC.1) (cwV 1 hts gX2_pointAt_X2_refuse rfl rfl rfl (by decide +kernel) ⟨Nat.le_of_ble_eq_true rfl, Nat.le_of_ble_eq_true rfl⟩) gK_ok hK hW (wd_recv (ci := 2) hK.1 hW rfl hC.1) hS hA rfl hl.1 rfl (Nat.le_of_ble_eq_true rfl) dX2_pointAt_37 ⟨Nat.le_of_ble_eq_true rfl, Nat.le_of_ble_eq_true rfl⟩ rfl rfl (fun r_37 w_37 H locs hp_37 hW hz hS => ?_)
        obtain ⟨q_r, q_w⟩ := hp_37
        subst r_37
        subst w_37
        have hC := hC.obj 2 pl
        refine wd_iret hx hb hr hlocks hW hS dX2_pointAt_40 ?_
        have e9 : s_pointAt (cd, pl, df, tx, kp, rs) (nI tN) k = (0, 2, pl, df, tx, kp, rs) := by simp only [s_pointAt, if_neg c_4, s_w1, s_no, s_yes, if_pos c_32, hcl_t, htx_15]
        show _ = (s_pointAt (cd, pl, df, tx, kp, rs) (nI tN) k).1 ∧ InvC cI cT o (s_pointAt (cd, pl, df, tx, kp, rs) (nI tN) k).2 _
        rw [e9]
        exact ⟨rfl, tA, kA, dr, drI, wk, wkI, sw, swI, aT, aI, Xd, hC⟩
  ·
    have c_4 := j_bn c_4
    refine lv_ldc (v := (-2000000001)) hx hb hown (hts (.constant RX2 47 (-2000000001)) (by decide +kernel)) dX2_pointAt_7 ?_
    refine wd_iret hx hb hr hlocks hW hS dX2_pointAt_9 ?_
    have e9 : s_pointAt (cd, pl, df, tx, kp, rs) t k = ((-2000000001), cd, pl, df, tx, kp, rs) := by simp only [s_pointAt, if_pos c_4, s_w1, s_no, s_yes]
    show _ = (s_pointAt (cd, pl, df, tx, kp, rs) t k).1 ∧ InvC cI cT o (s_pointAt (cd, pl, df, tx, kp, rs) t k).2 _
    rw [e9]
    exact ⟨rfl, tA, kA, dr, drI, wk, wkI, sw, swI, aT, aI, Xd, hC⟩
set_option maxHeartbeats 4000000 in
set_option maxRecDepth 100000 in
theorem k_X2_put (l : Launch) (D : va_G) (cI cT : ClassId) (w : Wd) (sz : Nat) (o : Nat) (cd : Int32) (pl : Int32) (df : List Int32) (tx : Nat → Option Nat) (kp : List Nat) (rs : Rws) (t : Int32) (k : Int32) (v : Int32) (hwf : WF (cd, pl, df, tx, kp, rs)) (hI : InvC cI cT o (cd, pl, df, tx, kp, rs) w) : wd_Mi l D vwCl (gK D cI cT) yX2_put wsX2_put (wd_rm 1 0 0) [.ref o, .int t, .int k, .int v] w sz (fun r w' => r = (s_put (cd, pl, df, tx, kp, rs) t k v).1 ∧ InvC cI cT o (s_put (cd, pl, df, tx, kp, rs) t k v).2 w') := by
  refine wd_met (cc := cX2_put) (maxL := 6) (ret := (some .int)) (by decide) rfl (Nat.le_of_ble_eq_true rfl) ?_
  intro pg ev sg mi bl mt cde ls C0 hsz hK hW hl
  obtain ⟨hx, hb, hr, hml, hown, hts, hlocks, hnm⟩ := C0
  subst hsz
  have hown : sg.vm.findClass RX2 = some mi.cls := hown
  have hS : va_S (wd_A w sg.heap.size) sg.heap sg.heap [] := va_S.rf
  have hA : ∀ q, sg.heap.size ≤ q → wd_A w sg.heap.size q := fun q h => Or.inr h
  have hl : lv_has ls 6 [(0, .ref o), (1, .int t), (2, .int k), (3, .int v)] := hl
  obtain ⟨tA, kA, dr, drI, wk, wkI, sw, swI, aT, aI, Xd, hC⟩ := hI
  dsimp only at hC
  obtain ⟨Xw, hXw⟩ := hC.2.2.2.2.1
  obtain ⟨Xs, hXs⟩ := hC.2.2.2.2.2.1
  have hXd1 := hC.2.2.2.1.1.2.2.1
  have hdf := hC.2.2.2.1.2
  have hkp : kp.length ≤ 12 := hwf.2.2.1
  have hdl : df.length = Xd.2 := by rw [← hC.2.2.2.1.2, rl_len]
  have hdg : ∀ j, j < df.length → Xd.1 j = lf df j := fun j hj => by rw [← hdf, lf, rl_getD (by omega)]
  refine lv_iload_n hx hb dX2_put_0 rfl (lv_at hl 1 rfl) ?_
  refine wd_callSi (As := [.int t]) (rest := []) (c2 := 0) (s2 := 0) ⟨hx, hb, hml, hown, hts⟩ (k_X2_isNoText l D cI cT w sg.heap.size t ) (va_cwS 1 hts gX2_put_X2_isNoText rfl rfl rfl (by decide +kernel) ⟨Nat.le_of_ble_eq_true rfl, Nat.le_of_ble_eq_true rfl⟩) gK_ok hK hW hS hA rfl hl.1 rfl (Nat.le_of_ble_eq_true rfl) dX2_put_1 ⟨Nat.le_of_ble_eq_true rfl, Nat.le_of_ble_eq_true rfl⟩ rfl rfl (fun r_1 w_1 H locs hp_1 hW hz hS => ?_)
  obtain ⟨q_r, q_w⟩ := hp_1
  subst r_1
  subst w_1
  refine lv_if_eq (tgt := 10) hx hb dX2_put_4 (by decide) (fun c_4 => ?_) (fun c_4 => ?_)
  ·
    have c_4 := j_b0 c_4
    obtain ⟨tN, htN, htE⟩ := nt_spec c_4
    subst htE
    have hcl_t : (nI tN).toNatClampNeg = tN := nI_clamp (by omega)
    refine lv_aload_n hx hb dX2_put_10 rfl (lv_at hl 0 rfl) ?_
    refine wd_get (ci := 2) (v := .ref tA) (C := RX2) (T := TX2) (N := 8) hx hb hts (by decide +kernel) hown hK.1 hW hC.1 rfl 0 (by decide) (hts (.fieldLink RX2 11 "CharRows" "texts" "[LCharRows$Text;") (by decide +kernel)) (fun _ h9 => h9) rfl dX2_put_11 ?_
    refine lv_iload_n hx hb dX2_put_14 rfl (lv_at hl 1 rfl) ?_
    refine wd_aldq hx hb hK.1 hW 1 hC.2.1 rfl (vp_in_nI (by omega) (by omega)) dX2_put_15 ?_
    rw [nI_clamp (by omega)]
    cases htx_15 : tx tN with
    | none =>
      refine wd_topR (y := .null) (by simp [htx_15, va_rf]) ?_
      refine lv_astoreN (lv' := [(4, .null), (0, .ref o), (1, .int (nI tN)), (2, .int k), (3, .int v)]) hx hb dX2_put_16 hl (by decide) rfl (fun ls hl => ?_)
      refine lv_aloadN hx hb dX2_put_18 (lv_at hl 0 rfl) ?_
      refine lv_ifnonnullN hx hb dX2_put_20 ?_
      refine lv_aload_n hx hb dX2_put_23 rfl (lv_at hl 1 rfl) ?_
      refine lv_iconst (v := 1) hx hb dX2_put_24 (by decide) ?_
      refine wd_callVi (As := [.int 1]) (rest := []) (c2 := 0) (s2 := 0) ⟨hx, hb, hml, hown, hts⟩ (k_X2_refuse l D cI cT w H.size o tA kA (nI kp.length) dr wk sw cd pl 1 hC.1) (cwV 1 hts gX2_put_X2_refuse rfl rfl rfl (by decide +kernel) ⟨Nat.le_of_ble_eq_true rfl, Nat.le_of_ble_eq_true rfl⟩) gK_ok hK hW (wd_recv (ci := 2) hK.1 hW rfl hC.1) hS hA rfl hl.1 rfl (Nat.le_of_ble_eq_true rfl) dX2_put_25 ⟨Nat.le_of_ble_eq_true rfl, Nat.le_of_ble_eq_true rfl⟩ rfl rfl (fun r_25 w_25 H locs hp_25 hW hz hS => ?_)
      obtain ⟨q_r, q_w⟩ := hp_25
      subst r_25
      subst w_25
      have hC := hC.obj 1 pl
      refine wd_iret hx hb hr hlocks hW hS dX2_put_28 ?_
      have e9 : s_put (cd, pl, df, tx, kp, rs) (nI tN) k v = (0, 1, pl, df, tx, kp, rs) := by simp only [s_put, if_neg c_4, s_w1, s_no, s_yes, s_rs, hcl_t, htx_15]
      show _ = (s_put (cd, pl, df, tx, kp, rs) (nI tN) k v).1 ∧ InvC cI cT o (s_put (cd, pl, df, tx, kp, rs) (nI tN) k v).2 _
      rw [e9]
      exact ⟨rfl, tA, kA, dr, drI, wk, wkI, sw, swI, aT, aI, Xd, hC⟩
    | some r_15 =>
      refine wd_topR (y := .ref (aT r_15)) (by simp [htx_15, va_rf]) ?_
      have hl_15 : live tx kp r_15 := Or.inl ⟨_, htx_15⟩
      have hok_15 : rOK (rs r_15) := (hwf.2.2.2.1 r_15 hl_15).2
      have hlen_15 := hok_15.len
      refine lv_astore (lv' := [(4, .ref (aT r_15)), (0, .ref o), (1, .int (nI tN)), (2, .int k), (3, .int v)]) hx hb dX2_put_16 hl (by decide) rfl (fun ls hl => ?_)
      refine lv_aload hx hb dX2_put_18 (lv_at hl 0 rfl) ?_
      refine lv_ifnonnull (tgt := 29) hx hb dX2_put_20 (by decide) ?_
      refine lv_aload hx hb dX2_put_29 (lv_at hl 0 rfl) ?_
      refine wd_get (ci := 1) (v := .int ((rs r_15).1)) (C := RX1) (T := TX1) (N := 2) hx hb hts (by decide +kernel) hown hK.1 hW (hC.2.2.2.2.2.2.2.1 r_15 hl_15).1 rfl 0 (by decide) (hts (.fieldLink RX2 94 "CharRows$Text" "kindOfItems" "I") (by decide +kernel)) (fun _ h9 => h9) rfl dX2_put_31 ?_
      refine lv_iconst (v := 1) hx hb dX2_put_34 (by decide) ?_
      refine lv_icmp_ne (tgt := 44) hx hb dX2_put_35 (by decide) (fun c_35 => ?_) (fun c_35 => ?_)
      ·
        refine lv_iload_n hx hb dX2_put_44 rfl (lv_at hl 3 rfl) ?_
        refine lv_if_lt (tgt := 58) hx hb dX2_put_45 (by decide) (fun c_45 => ?_) (fun c_45 => ?_)
        ·
          refine lv_aload_n hx hb dX2_put_58 rfl (lv_at hl 1 rfl) ?_
          refine lv_iconst (v := 3) hx hb dX2_put_59 (by decide) ?_
          refine wd_callVi (As := [.int 3]) (rest := []) (c2 := 0) (s2 := 0) ⟨hx, hb, hml, hown, hts⟩ (k_X2_refuse l D cI cT w H.size o tA kA (nI kp.length) dr wk sw cd pl 3 hC.1) (cwV 1 hts gX2_put_X2_refuse rfl rfl rfl (by decide +kernel) ⟨Nat.le_of_ble_eq_true rfl, Nat.le_of_ble_eq_true rfl⟩) gK_ok hK hW (wd_recv (ci := 2) hK.1 hW rfl hC.1) hS hA rfl hl.1 rfl (Nat.le_of_ble_eq_true rfl) dX2_put_60 ⟨Nat.le_of_ble_eq_true rfl, Nat.le_of_ble_eq_true rfl⟩ rfl rfl (fun r_60 w_60 H locs hp_60 hW hz hS => ?_)
          obtain ⟨q_r, q_w⟩ := hp_60
          subst r_60
          subst w_60
          have hC := hC.obj 3 pl
          refine wd_iret hx hb hr hlocks hW hS dX2_put_63 ?_
          have e9 : s_put (cd, pl, df, tx, kp, rs) (nI tN) k v = (0, 3, pl, df, tx, kp, rs) := by simp only [s_put, if_neg c_4, s_w1, s_no, s_yes, if_neg c_35, if_pos (out_neg c_45), s_rs, hcl_t, htx_15]
          show _ = (s_put (cd, pl, df, tx, kp, rs) (nI tN) k v).1 ∧ InvC cI cT o (s_put (cd, pl, df, tx, kp, rs) (nI tN) k v).2 _
          rw [e9]
          exact ⟨rfl, tA, kA, dr, drI, wk, wkI, sw, swI, aT, aI, Xd, hC⟩
        ·
          obtain ⟨kN, hkN, hkE⟩ := nI_of c_45
          subst hkE
          have hcl_k : (nI kN).toNatClampNeg = kN := nI_clamp (by omega)
          refine lv_iload_n hx hb dX2_put_48 rfl (lv_at hl 3 rfl) ?_
          refine lv_aload hx hb dX2_put_49 (lv_at hl 0 rfl) ?_
          refine wd_get (ci := 1) (v := .ref (aI r_15)) (C := RX1) (T := TX1) (N := 2) hx hb hts (by decide +kernel) hown hK.1 hW (hC.2.2.2.2.2.2.2.1 r_15 hl_15).1 rfl 1 (by decide) (hts (.fieldLink RX2 93 "CharRows$Text" "items" "[I") (by decide +kernel)) (fun _ h9 => h9) rfl dX2_put_51 ?_
          refine wd_alen hx hb hK.1 hW 0 (hC.2.2.2.2.2.2.2.1 r_15 hl_15).2.1 rfl dX2_put_54 ?_
          refine lv_icmp_lt (tgt := 64) hx hb dX2_put_55 (by decide) (fun c_55 => ?_) (fun c_55 => ?_)
          ·
            have c_55 : kN < (rs r_15).2.length := (nI_ltI (by omega) (by omega)).mp (show (nI kN < nI ((rs r_15).2.length)) from c_55)
            refine lv_aload hx hb dX2_put_64 (lv_at hl 0 rfl) ?_
            refine wd_get (ci := 1) (v := .ref (aI r_15)) (C := RX1) (T := TX1) (N := 2) hx hb hts (by decide +kernel) hown hK.1 hW (hC.2.2.2.2.2.2.2.1 r_15 hl_15).1 rfl 1 (by decide) (hts (.fieldLink RX2 93 "CharRows$Text" "items" "[I") (by decide +kernel)) (fun _ h9 => h9) rfl dX2_put_66 ?_
            refine lv_iload_n hx hb dX2_put_69 rfl (lv_at hl 3 rfl) ?_
            refine wd_iald hx hb hK.1 hW 0 (hC.2.2.2.2.2.2.2.1 r_15 hl_15).2.1 rfl (vp_in_nI (by omega) (by omega)) dX2_put_70 ?_
            refine wd_topE (y := (lf (rs r_15).2) kN) (by rw [nI_clamp (by omega)]) ?_
            refine lv_istore (lv' := [(5, .int ((lf (rs r_15).2) kN)), (4, .ref (aT r_15)), (0, .ref o), (1, .int (nI tN)), (2, .int (nI kN)), (3, .int v)]) hx hb dX2_put_71 hl (by decide) rfl (fun ls hl => ?_)
            refine lv_aload hx hb dX2_put_73 (lv_at hl 1 rfl) ?_
            refine wd_get (ci := 1) (v := .ref (aI r_15)) (C := RX1) (T := TX1) (N := 2) hx hb hts (by decide +kernel) hown hK.1 hW (hC.2.2.2.2.2.2.2.1 r_15 hl_15).1 rfl 1 (by decide) (hts (.fieldLink RX2 93 "CharRows$Text" "items" "[I") (by decide +kernel)) (fun _ h9 => h9) rfl dX2_put_75 ?_
            refine lv_iload_n hx hb dX2_put_78 rfl (lv_at hl 4 rfl) ?_
            refine lv_iload_n hx hb dX2_put_79 rfl (lv_at hl 5 rfl) ?_
            refine lv_aload hx hb dX2_put_80 (lv_at hl 1 rfl) ?_
            refine wd_get (ci := 1) (v := .int ((rs r_15).1)) (C := RX1) (T := TX1) (N := 2) hx hb hts (by decide +kernel) hown hK.1 hW (hC.2.2.2.2.2.2.2.1 r_15 hl_15).1 rfl 0 (by decide) (hts (.fieldLink RX2 94 "CharRows$Text" "kindOfItems" "I") (by decide +kernel)) (fun _ h9 => h9) rfl dX2_put_82 ?_
            refine wd_callSi (As := [.int ((rs r_15).1)]) (rest := [.int v, .int (nI kN), .ref (aI r_15)]) (c2 := 0) (s2 := 0) ⟨hx, hb, hml, hown, hts⟩ (k_X2_maskOf l D cI cT w H.size ((rs r_15).1) ) (va_cwS 1 hts gX2_put_X2_maskOf rfl rfl rfl (by decide +kernel) ⟨Nat.le_of_ble_eq_true rfl, Nat.le_of_ble_eq_true rfl⟩) gK_ok hK hW hS hA rfl hl.1 rfl (Nat.le_of_ble_eq_true rfl) dX2_put_85 ⟨Nat.le_of_ble_eq_true rfl, Nat.le_of_ble_eq_true rfl⟩ rfl rfl (fun r_85 w_85 H locs hp_85 hW hz hS => ?_)
            obtain ⟨q_r, q_w⟩ := hp_85
            subst r_85
            subst w_85
            refine lv_iand hx hb dX2_put_88 ?_
            refine wd_iast hx hb hK.1 hW hS 0 (hC.2.2.2.2.2.2.2.1 r_15 hl_15).2.1 rfl (vp_in_nI (by omega) (by omega)) dX2_put_89 (fun H locs hW hS => ?_)
            rw [nI_clamp (by omega)] at hW
            rw [e_list_set (by omega)] at hW
            have hC := hC.items hl_15 ((rs r_15).2.set kN (v &&& (j_mask ((rs r_15).1))))
            refine lv_aload_n hx hb dX2_put_90 rfl (lv_at hl 2 rfl) ?_
            refine lv_iload hx hb dX2_put_91 (lv_at hl 0 rfl) ?_
            refine wd_callVi (As := [.int ((lf (rs r_15).2) kN)]) (rest := []) (c2 := 0) (s2 := 0) ⟨hx, hb, hml, hown, hts⟩ (k_X2_done l D cI cT (wd_up w (aI r_15) (e_list cI ((rs r_15).2.set kN (v &&& (j_mask ((rs r_15).1)))))) H.size o tA kA (nI kp.length) dr wk sw cd pl ((lf (rs r_15).2) kN) hC.1) (cwV 1 hts gX2_put_X2_done rfl rfl rfl (by decide +kernel) ⟨Nat.le_of_ble_eq_true rfl, Nat.le_of_ble_eq_true rfl⟩) gK_ok hK hW (wd_recv (ci := 2) hK.1 hW rfl hC.1) hS hA rfl hl.1 rfl (Nat.le_of_ble_eq_true rfl) dX2_put_93 ⟨Nat.le_of_ble_eq_true rfl, Nat.le_of_ble_eq_true rfl⟩ rfl rfl (fun r_93 w_93 H locs hp_93 hW hz hS => ?_)
            obtain ⟨q_r, q_w⟩ := hp_93
            subst r_93
            subst w_93
            have hC := hC.obj 0 pl
            refine wd_iret hx hb hr hlocks hW hS dX2_put_96 ?_
            have e9 : s_put (cd, pl, df, tx, kp, rs) (nI tN) (nI kN) v = ((lf (rs r_15).2) kN, 0, pl, df, tx, kp, (va_up rs r_15 ((rs r_15).1, ((rs r_15).2.set kN (v &&& (j_mask ((rs r_15).1))))))) := by simp only [s_put, if_neg c_4, s_w1, s_no, s_yes, if_neg c_35, if_neg (out_no (k := kN) (n := (rs r_15).2.length) (by omega) (by omega)), s_rs, hcl_t, hcl_k, htx_15]
            show _ = (s_put (cd, pl, df, tx, kp, rs) (nI tN) (nI kN) v).1 ∧ InvC cI cT o (s_put (cd, pl, df, tx, kp, rs) (nI tN) (nI kN) v).2 _
            rw [e9]
            exact ⟨rfl, tA, kA, dr, drI, wk, wkI, sw, swI, aT, aI, Xd, hC⟩
          ·
            have c_55 : ¬ (kN < (rs r_15).2.length) := fun q9 => absurd ((nI_ltI (by omega) (by omega)).mpr q9) (show ¬ (nI kN < nI ((rs r_15).2.length)) from c_55)
            refine lv_aload_n hx hb dX2_put_58 rfl (lv_at hl 1 rfl) ?_
            refine lv_iconst (v := 3) hx hb dX2_put_59 (by decide) ?_
            refine wd_callVi (As := [.int 3]) (rest := []) (c2 := 0) (s2 := 0) ⟨hx, hb, hml, hown, hts⟩ (k_X2_refuse l D cI cT w H.size o tA kA (nI kp.length) dr wk sw cd pl 3 hC.1) (cwV 1 hts gX2_put_X2_refuse rfl rfl rfl (by decide +kernel) ⟨Nat.le_of_ble_eq_true rfl, Nat.le_of_ble_eq_true rfl⟩) gK_ok hK hW (wd_recv (ci := 2) hK.1 hW rfl hC.1) hS hA rfl hl.1 rfl (Nat.le_of_ble_eq_true rfl) dX2_put_60 ⟨Nat.le_of_ble_eq_true rfl, Nat.le_of_ble_eq_true rfl⟩ rfl rfl (fun r_60 w_60 H locs hp_60 hW hz hS => ?_)
            obtain ⟨q_r, q_w⟩ := hp_60
            subst r_60
            subst w_60
            have hC := hC.obj 3 pl
            refine wd_iret hx hb hr hlocks hW hS dX2_put_63 ?_
            have e9 : s_put (cd, pl, df, tx, kp, rs) (nI tN) (nI kN) v = (0, 3, pl, df, tx, kp, rs) := by simp only [s_put, if_neg c_4, s_w1, s_no, s_yes, if_neg c_35, if_pos (out_yes (k := kN) (n := (rs r_15).2.length) (by omega) (by omega)), s_rs, hcl_t, hcl_k, htx_15]
            show _ = (s_put (cd, pl, df, tx, kp, rs) (nI tN) (nI kN) v).1 ∧ InvC cI cT o (s_put (cd, pl, df, tx, kp, rs) (nI tN) (nI kN) v).2 _
            rw [e9]
            exact ⟨rfl, tA, kA, dr, drI, wk, wkI, sw, swI, aT, aI, Xd, hC⟩
      ·
        refine lv_aload_n hx hb dX2_put_38 rfl (lv_at hl 1 rfl) ?_
        refine lv_iconst (v := 2) hx hb dX2_put_39 (by decide) ?_
        refine wd_callVi (As := [.int 2]) (rest := []) (c2 := 0) (s2 := 0) ⟨hx, hb, hml, hown, hts⟩ (k_X2_refuse l D cI cT w H.size o tA kA (nI kp.length) dr wk sw cd pl 2 hC.1) (cwV 1 hts gX2_put_X2_refuse rfl rfl rfl (by decide +kernel) ⟨Nat.le_of_ble_eq_true rfl, Nat.le_of_ble_eq_true rfl⟩) gK_ok hK hW (wd_recv (ci := 2) hK.1 hW rfl hC.1) hS hA rfl hl.1 rfl (Nat.le_of_ble_eq_true rfl) dX2_put_40 ⟨Nat.le_of_ble_eq_true rfl, Nat.le_of_ble_eq_true rfl⟩ rfl rfl (fun r_40 w_40 H locs hp_40 hW hz hS => ?_)
        obtain ⟨q_r, q_w⟩ := hp_40
        subst r_40
        subst w_40
        have hC := hC.obj 2 pl
        refine wd_iret hx hb hr hlocks hW hS dX2_put_43 ?_
        have e9 : s_put (cd, pl, df, tx, kp, rs) (nI tN) k v = (0, 2, pl, df, tx, kp, rs) := by simp only [s_put, if_neg c_4, s_w1, s_no, s_yes, if_pos c_35, s_rs, hcl_t, htx_15]
        show _ = (s_put (cd, pl, df, tx, kp, rs) (nI tN) k v).1 ∧ InvC cI cT o (s_put (cd, pl, df, tx, kp, rs) (nI tN) k v).2 _
        rw [e9]
        exact ⟨rfl, tA, kA, dr, drI, wk, wkI, sw, swI, aT, aI, Xd, hC⟩
  ·
    have c_4 := j_bn c_4
    refine lv_ldc (v := (-2000000001)) hx hb hown (hts (.constant RX2 47 (-2000000001)) (by decide +kernel)) dX2_put_7 ?_
    refine wd_iret hx hb hr hlocks hW hS dX2_put_9 ?_
    have e9 : s_put (cd, pl, df, tx, kp, rs) t k v = ((-2000000001), cd, pl, df, tx, kp, rs) := by simp only [s_put, if_pos c_4, s_w1, s_no, s_yes, s_rs]
    show _ = (s_put (cd, pl, df, tx, kp, rs) t k v).1 ∧ InvC cI cT o (s_put (cd, pl, df, tx, kp, rs) t k v).2 _
    rw [e9]
    exact ⟨rfl, tA, kA, dr, drI, wk, wkI, sw, swI, aT, aI, Xd, hC⟩
