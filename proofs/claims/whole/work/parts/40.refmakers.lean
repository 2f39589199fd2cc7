set_option maxHeartbeats 4000000 in
set_option maxRecDepth 100000 in
theorem k_X3_kind (l : Launch) (D : va_G) (cI cT : ClassId) (w : Wd) (sz : Nat) (m : Nat) (p : Int32) : wd_Mi l D vwCl (gK D cI cT) yX3_kind wsX3_kind (wd_rm 2 0 0) [.ref m, .int p] w sz (fun r w' => r = u_kind p ∧ w' = w) := by
  refine wd_met (cc := cX3_kind) (maxL := 2) (ret := (some .int)) (by decide) rfl (Nat.le_of_ble_eq_true rfl) ?_
  intro pg ev sg mi bl mt cde ls C0 hsz hK hW hl
  obtain ⟨hx, hb, hr, hml, hown, hts, hlocks, hnm⟩ := C0
  subst hsz
  have hown : sg.vm.findClass RX3 = some mi.cls := hown
  have hS : va_S (wd_A w sg.heap.size) sg.heap sg.heap [] := va_S.rf
  have hA : ∀ q, sg.heap.size ≤ q → wd_A w sg.heap.size q := fun q h => Or.inr h
  have hl : lv_has ls 2 [(0, .ref m), (1, .int p)] := hl
  refine lv_iload_n hx hb dX3_kind_0 rfl (lv_at hl 1 rfl) ?_
  refine wd_callSi (As := [.int p]) (rest := []) (c2 := 0) (s2 := 0) ⟨hx, hb, hml, hown, hts⟩ (k_X3_isPoint l D cI cT w sg.heap.size p ) (va_cwS 1 hts gX3_kind_X3_isPoint rfl rfl rfl (by decide +kernel) ⟨Nat.le_of_ble_eq_true rfl, Nat.le_of_ble_eq_true rfl⟩) gK_ok hK hW hS hA rfl hl.1 rfl (Nat.le_of_ble_eq_true rfl) dX3_kind_1 ⟨Nat.le_of_ble_eq_true rfl, Nat.le_of_ble_eq_true rfl⟩ rfl rfl (fun r_1 w_1 H locs hp_1 hW hz hS => ?_)
  obtain ⟨q_r, q_w⟩ := hp_1
  subst r_1
  subst w_1
  refine lv_if_ne (tgt := 10) hx hb dX3_kind_4 (by decide) (fun c_4 => ?_) (fun c_4 => ?_)
  ·
    have c_4 := j_bn c_4
    refine lv_iload_n hx hb dX3_kind_10 rfl (lv_at hl 1 rfl) ?_
    refine wd_callSi (As := [.int p]) (rest := []) (c2 := 0) (s2 := 0) ⟨hx, hb, hml, hown, hts⟩ (k_X3_isHigh l D cI cT w H.size p ) (va_cwS 1 hts gX3_kind_X3_isHigh rfl rfl rfl (by decide +kernel) ⟨Nat.le_of_ble_eq_true rfl, Nat.le_of_ble_eq_true rfl⟩) gK_ok hK hW hS hA rfl hl.1 rfl (Nat.le_of_ble_eq_true rfl) dX3_kind_11 ⟨Nat.le_of_ble_eq_true rfl, Nat.le_of_ble_eq_true rfl⟩ rfl rfl (fun r_11 w_11 H locs hp_11 hW hz hS => ?_)
    obtain ⟨q_r, q_w⟩ := hp_11
    subst r_11
    subst w_11
    refine lv_if_eq (tgt := 19) hx hb dX3_kind_14 (by decide) (fun c_14 => ?_) (fun c_14 => ?_)
    ·
      have c_14 := j_b0 c_14
      refine lv_iload_n hx hb dX3_kind_19 rfl (lv_at hl 1 rfl) ?_
      refine wd_callSi (As := [.int p]) (rest := []) (c2 := 0) (s2 := 0) ⟨hx, hb, hml, hown, hts⟩ (k_X3_isLow l D cI cT w H.size p ) (va_cwS 1 hts gX3_kind_X3_isLow rfl rfl rfl (by decide +kernel) ⟨Nat.le_of_ble_eq_true rfl, Nat.le_of_ble_eq_true rfl⟩) gK_ok hK hW hS hA rfl hl.1 rfl (Nat.le_of_ble_eq_true rfl) dX3_kind_20 ⟨Nat.le_of_ble_eq_true rfl, Nat.le_of_ble_eq_true rfl⟩ rfl rfl (fun r_20 w_20 H locs hp_20 hW hz hS => ?_)
      obtain ⟨q_r, q_w⟩ := hp_20
      subst r_20
      subst w_20
      refine lv_if_eq (tgt := 28) hx hb dX3_kind_23 (by decide) (fun c_23 => ?_) (fun c_23 => ?_)
      ·
        have c_23 := j_b0 c_23
        refine lv_iload_n hx hb dX3_kind_28 rfl (lv_at hl 1 rfl) ?_
        refine lv_bipush (v := 48) hx hb dX3_kind_29 (by decide) ?_
        refine lv_bipush (v := 57) hx hb dX3_kind_31 (by decide) ?_
        refine wd_callSi (As := [.int p, .int 48, .int 57]) (rest := []) (c2 := 0) (s2 := 0) ⟨hx, hb, hml, hown, hts⟩ (k_X3_within l D cI cT w H.size p 48 57 ) (va_cwS 3 hts gX3_kind_X3_within rfl rfl rfl (by decide +kernel) ⟨Nat.le_of_ble_eq_true rfl, Nat.le_of_ble_eq_true rfl⟩) gK_ok hK hW hS hA rfl hl.1 rfl (Nat.le_of_ble_eq_true rfl) dX3_kind_33 ⟨Nat.le_of_ble_eq_true rfl, Nat.le_of_ble_eq_true rfl⟩ rfl rfl (fun r_33 w_33 H locs hp_33 hW hz hS => ?_)
        obtain ⟨q_r, q_w⟩ := hp_33
        subst r_33
        subst w_33
        refine lv_if_eq (tgt := 41) hx hb dX3_kind_36 (by decide) (fun c_36 => ?_) (fun c_36 => ?_)
        ·
          have c_36 := j_b0 c_36
          refine lv_iload_n hx hb dX3_kind_41 rfl (lv_at hl 1 rfl) ?_
          refine lv_iconst (v := 0) hx hb dX3_kind_42 (by decide) ?_
          refine wd_callSi (As := [.int p, .int 0]) (rest := []) (c2 := 0) (s2 := 0) ⟨hx, hb, hml, hown, hts⟩ (k_X3_inCase l D cI cT w H.size p 0 ) (va_cwS 2 hts gX3_kind_X3_inCase rfl rfl rfl (by decide +kernel) ⟨Nat.le_of_ble_eq_true rfl, Nat.le_of_ble_eq_true rfl⟩) gK_ok hK hW hS hA rfl hl.1 rfl (Nat.le_of_ble_eq_true rfl) dX3_kind_43 ⟨Nat.le_of_ble_eq_true rfl, Nat.le_of_ble_eq_true rfl⟩ rfl rfl (fun r_43 w_43 H locs hp_43 hW hz hS => ?_)
          obtain ⟨q_r, q_w⟩ := hp_43
          subst r_43
          subst w_43
          refine wd_topE (y := j_gr p) (if_pos rfl) ?_
          refine lv_iload_n hx hb dX3_kind_46 rfl (lv_at hl 1 rfl) ?_
          refine lv_icmp_ne (tgt := 59) hx hb dX3_kind_47 (by decide) (fun c_47 => ?_) (fun c_47 => ?_)
          ·
            refine lv_iconst (v := 3) hx hb dX3_kind_59 (by decide) ?_
            refine wd_iret hx hb hr hlocks hW hS dX3_kind_60 ?_
            exact ⟨by rw [u_kind, if_neg c_4, if_neg c_14, if_neg c_23, if_neg c_36, if_pos (Or.inl c_47)], rfl⟩
          ·
            refine lv_iload_n hx hb dX3_kind_50 rfl (lv_at hl 1 rfl) ?_
            refine lv_iconst (v := 1) hx hb dX3_kind_51 (by decide) ?_
            refine wd_callSi (As := [.int p, .int 1]) (rest := []) (c2 := 0) (s2 := 0) ⟨hx, hb, hml, hown, hts⟩ (k_X3_inCase l D cI cT w H.size p 1 ) (va_cwS 2 hts gX3_kind_X3_inCase rfl rfl rfl (by decide +kernel) ⟨Nat.le_of_ble_eq_true rfl, Nat.le_of_ble_eq_true rfl⟩) gK_ok hK hW hS hA rfl hl.1 rfl (Nat.le_of_ble_eq_true rfl) dX3_kind_52 ⟨Nat.le_of_ble_eq_true rfl, Nat.le_of_ble_eq_true rfl⟩ rfl rfl (fun r_52 w_52 H locs hp_52 hW hz hS => ?_)
            obtain ⟨q_r, q_w⟩ := hp_52
            subst r_52
            subst w_52
            refine wd_topE (y := j_le p) (if_neg (by decide)) ?_
            refine lv_iload_n hx hb dX3_kind_55 rfl (lv_at hl 1 rfl) ?_
            refine lv_icmp_eq (tgt := 61) hx hb dX3_kind_56 (by decide) (fun c_56 => ?_) (fun c_56 => ?_)
            ·
              refine lv_iload_n hx hb dX3_kind_61 rfl (lv_at hl 1 rfl) ?_
              refine lv_bipush (v := 9) hx hb dX3_kind_62 (by decide) ?_
              refine lv_bipush (v := 13) hx hb dX3_kind_64 (by decide) ?_
              refine wd_callSi (As := [.int p, .int 9, .int 13]) (rest := []) (c2 := 0) (s2 := 0) ⟨hx, hb, hml, hown, hts⟩ (k_X3_within l D cI cT w H.size p 9 13 ) (va_cwS 3 hts gX3_kind_X3_within rfl rfl rfl (by decide +kernel) ⟨Nat.le_of_ble_eq_true rfl, Nat.le_of_ble_eq_true rfl⟩) gK_ok hK hW hS hA rfl hl.1 rfl (Nat.le_of_ble_eq_true rfl) dX3_kind_66 ⟨Nat.le_of_ble_eq_true rfl, Nat.le_of_ble_eq_true rfl⟩ rfl rfl (fun r_66 w_66 H locs hp_66 hW hz hS => ?_)
              obtain ⟨q_r, q_w⟩ := hp_66
              subst r_66
              subst w_66
              refine lv_if_ne (tgt := 85) hx hb dX3_kind_69 (by decide) (fun c_69 => ?_) (fun c_69 => ?_)
              ·
                have c_69 := j_bn c_69
                refine lv_iconst (v := 4) hx hb dX3_kind_85 (by decide) ?_
                refine wd_iret hx hb hr hlocks hW hS dX3_kind_86 ?_
                exact ⟨by rw [u_kind, if_neg c_4, if_neg c_14, if_neg c_23, if_neg c_36, if_neg (fun q => q.elim (fun z => z c_47) (fun z => z c_56)), if_pos (Or.inl c_69)], rfl⟩
              ·
                have c_69 := j_b0 c_69
                refine lv_iload_n hx hb dX3_kind_72 rfl (lv_at hl 1 rfl) ?_
                refine lv_bipush (v := 32) hx hb dX3_kind_73 (by decide) ?_
                refine lv_icmp_eq (tgt := 85) hx hb dX3_kind_75 (by decide) (fun c_75 => ?_) (fun c_75 => ?_)
                ·
                  refine lv_iconst (v := 4) hx hb dX3_kind_85 (by decide) ?_
                  refine wd_iret hx hb hr hlocks hW hS dX3_kind_86 ?_
                  exact ⟨by rw [u_kind, if_neg c_4, if_neg c_14, if_neg c_23, if_neg c_36, if_neg (fun q => q.elim (fun z => z c_47) (fun z => z c_56)), if_pos (Or.inr (Or.inl c_75))], rfl⟩
                ·
                  refine lv_iload_n hx hb dX3_kind_78 rfl (lv_at hl 1 rfl) ?_
                  refine lv_sipush (v := 160) hx hb dX3_kind_79 (by decide) ?_
                  refine lv_icmp_ne (tgt := 87) hx hb dX3_kind_82 (by decide) (fun c_82 => ?_) (fun c_82 => ?_)
                  ·
                    refine lv_iload_n hx hb dX3_kind_87 rfl (lv_at hl 1 rfl) ?_
                    refine lv_ldc (v := 65535) hx hb hown (hts (.constant RX3 111 65535) (by decide +kernel)) dX3_kind_88 ?_
                    refine lv_icmp_le (tgt := 97) hx hb dX3_kind_90 (by decide) (fun c_90 => ?_) (fun c_90 => ?_)
                    ·
                      simp only [i_le, Decidable.not_not] at c_90
                      refine lv_bipush (v := 6) hx hb dX3_kind_97 (by decide) ?_
                      refine wd_iret hx hb hr hlocks hW hS dX3_kind_99 ?_
                      exact ⟨by rw [u_kind, if_neg c_4, if_neg c_14, if_neg c_23, if_neg c_36, if_neg (fun q => q.elim (fun z => z c_47) (fun z => z c_56)), if_neg (not_or.mpr ⟨c_69, not_or.mpr ⟨c_75, c_82⟩⟩), if_neg (by rw [i_le]; rw [i_lt, show (65535 : Int32).toInt = 65535 from rfl] at c_90; rw [i_lt, show (65536 : Int32).toInt = 65536 from rfl]; omega)], rfl⟩
                    ·
                      simp only [i_le, Decidable.not_not] at c_90
                      refine lv_iconst (v := 5) hx hb dX3_kind_93 (by decide) ?_
                      refine lv_goto (tgt := 99) hx hb dX3_kind_94 (by decide) ?_
                      refine wd_iret hx hb hr hlocks hW hS dX3_kind_99 ?_
                      exact ⟨by rw [u_kind, if_neg c_4, if_neg c_14, if_neg c_23, if_neg c_36, if_neg (fun q => q.elim (fun z => z c_47) (fun z => z c_56)), if_neg (not_or.mpr ⟨c_69, not_or.mpr ⟨c_75, c_82⟩⟩), if_pos (by rw [i_le]; rw [i_lt, show (65535 : Int32).toInt = 65535 from rfl] at c_90; rw [i_lt, show (65536 : Int32).toInt = 65536 from rfl]; omega)], rfl⟩
                  ·
                    refine lv_iconst (v := 4) hx hb dX3_kind_85 (by decide) ?_
                    refine wd_iret hx hb hr hlocks hW hS dX3_kind_86 ?_
                    exact ⟨by rw [u_kind, if_neg c_4, if_neg c_14, if_neg c_23, if_neg c_36, if_neg (fun q => q.elim (fun z => z c_47) (fun z => z c_56)), if_pos (Or.inr (Or.inr c_82))], rfl⟩
            ·
              refine lv_iconst (v := 3) hx hb dX3_kind_59 (by decide) ?_
              refine wd_iret hx hb hr hlocks hW hS dX3_kind_60 ?_
              exact ⟨by rw [u_kind, if_neg c_4, if_neg c_14, if_neg c_23, if_neg c_36, if_pos (Or.inr c_56)], rfl⟩
        ·
          have c_36 := j_bn c_36
          refine lv_iconst (v := 2) hx hb dX3_kind_39 (by decide) ?_
          refine wd_iret hx hb hr hlocks hW hS dX3_kind_40 ?_
          exact ⟨by rw [u_kind, if_neg c_4, if_neg c_14, if_neg c_23, if_pos c_36], rfl⟩
      ·
        have c_23 := j_bn c_23
        refine lv_iconst (v := 1) hx hb dX3_kind_26 (by decide) ?_
        refine wd_iret hx hb hr hlocks hW hS dX3_kind_27 ?_
        exact ⟨by rw [u_kind, if_neg c_4, if_neg c_14, if_pos c_23], rfl⟩
    ·
      have c_14 := j_bn c_14
      refine lv_iconst (v := 0) hx hb dX3_kind_17 (by decide) ?_
      refine wd_iret hx hb hr hlocks hW hS dX3_kind_18 ?_
      exact ⟨by rw [u_kind, if_neg c_4, if_pos c_14], rfl⟩
  ·
    have c_4 := j_b0 c_4
    refine lv_ldc (v := (-2000000001)) hx hb hown (hts (.constant RX3 107 (-2000000001)) (by decide +kernel)) dX3_kind_7 ?_
    refine wd_iret hx hb hr hlocks hW hS dX3_kind_9 ?_
    exact ⟨by rw [u_kind, if_pos (Decidable.not_not.mp c_4)], rfl⟩
set_option maxHeartbeats 4000000 in
set_option maxRecDepth 100000 in
theorem k_X3_lay (l : Launch) (D : va_G) (cI cT : ClassId) (w : Wd) (sz : Nat) (m : Nat) (cd : Int32) (pl : Int32) (df : List Int32) (tx : Nat → Option Nat) (kp : List Nat) (rs : Rws) (t : Int32) (kd : Int32) (hwf : WF (cd, pl, df, tx, kp, rs)) (hI : InvR cI m (cd, pl, df, tx, kp, rs) w) : wd_Mi l D vwCl (gK D cI cT) yX3_lay wsX3_lay (wd_rm 3 0 0) [.ref m, .int t, .int kd] w sz (fun r w' => r = (s_lay (cd, pl, df, tx, kp, rs) t kd).1 ∧ InvR cI m (s_lay (cd, pl, df, tx, kp, rs) t kd).2 w') := by
  refine wd_met (cc := cX3_lay) (maxL := 4) (ret := (some .int)) (by decide) rfl (Nat.le_of_ble_eq_true rfl) ?_
  intro pg ev sg mi bl mt cde ls C0 hsz hK hW hl
  obtain ⟨hx, hb, hr, hml, hown, hts, hlocks, hnm⟩ := C0
  subst hsz
  have hown : sg.vm.findClass RX3 = some mi.cls := hown
  have hS : va_S (wd_A w sg.heap.size) sg.heap sg.heap [] := va_S.rf
  have hA : ∀ q, sg.heap.size ≤ q → wd_A w sg.heap.size q := fun q h => Or.inr h
  have hl : lv_has ls 4 [(0, .ref m), (1, .int t), (2, .int kd)] := hl
  obtain ⟨A, fI, XD, XP, XU, XO, XB, hR, hdf, hit⟩ := hI
  dsimp only at hR hdf hit
  have h10 : ∀ t, 10 ≤ t → tx t = none := hwf.2.1
  have hkp : kp.length ≤ 12 := hwf.2.2.1
  have hlv : ∀ t r, tx t = some r → r < 24 := fun t r h => (hwf.2.2.2.1 r (Or.inl ⟨t, h⟩)).1
  have hok : ∀ t r, tx t = some r → rOK (rs r) := fun t r h => (hwf.2.2.2.1 r (Or.inl ⟨t, h⟩)).2
  have hk24 : ∀ r ∈ kp, r < 24 := fun r h => (hwf.2.2.2.1 r (Or.inr h)).1
  have hdl : df.length = XD.2 := by rw [← hdf, rl_len]
  have hd60 : df.length ≤ 60 := hwf.1.1
  refine lv_iload_n hx hb dX3_lay_0 rfl (lv_at hl 1 rfl) ?_
  refine wd_callSi (As := [.int t]) (rest := []) (c2 := 0) (s2 := 0) ⟨hx, hb, hml, hown, hts⟩ (k_X3_isText l D cI cT w sg.heap.size t ) (va_cwS 1 hts gX3_lay_X3_isText rfl rfl rfl (by decide +kernel) ⟨Nat.le_of_ble_eq_true rfl, Nat.le_of_ble_eq_true rfl⟩) gK_ok hK hW hS hA rfl hl.1 rfl (Nat.le_of_ble_eq_true rfl) dX3_lay_1 ⟨Nat.le_of_ble_eq_true rfl, Nat.le_of_ble_eq_true rfl⟩ rfl rfl (fun r_1 w_1 H locs hp_1 hW hz hS => ?_)
  obtain ⟨q_r, q_w⟩ := hp_1
  subst r_1
  subst w_1
  refine lv_if_eq (tgt := 16) hx hb dX3_lay_4 (by decide) (fun c_4 => ?_) (fun c_4 => ?_)
  ·
    have c_4 := nt_of (j_b0 c_4)
    refine lv_ldc (v := (-2000000001)) hx hb hown (hts (.constant RX3 107 (-2000000001)) (by decide +kernel)) dX3_lay_16 ?_
    refine wd_iret hx hb hr hlocks hW hS dX3_lay_18 ?_
    have e9 : s_lay (cd, pl, df, tx, kp, rs) t kd = ((-2000000001), cd, pl, df, tx, kp, rs) := by simp only [s_lay, if_pos (Or.inl c_4)]
    show _ = (s_lay (cd, pl, df, tx, kp, rs) t kd).1 ∧ InvR cI m (s_lay (cd, pl, df, tx, kp, rs) t kd).2 _
    rw [e9]
    exact ⟨rfl, A, fI, XD, XP, XU, XO, XB, hR, hdf, hit⟩
  ·
    have c_4 := j_bn c_4
    obtain ⟨tN, htN, htE⟩ := nt_spec c_4
    subst htE
    have hcl_t : (nI tN).toNatClampNeg = tN := nI_clamp (by omega)
    refine lv_iload_n hx hb dX3_lay_7 rfl (lv_at hl 2 rfl) ?_
    refine lv_iconst (v := 0) hx hb dX3_lay_8 (by decide) ?_
    refine lv_iconst (v := 2) hx hb dX3_lay_9 (by decide) ?_
    refine wd_callSi (As := [.int kd, .int 0, .int 2]) (rest := []) (c2 := 0) (s2 := 0) ⟨hx, hb, hml, hown, hts⟩ (k_X3_within l D cI cT w H.size kd 0 2 ) (va_cwS 3 hts gX3_lay_X3_within rfl rfl rfl (by decide +kernel) ⟨Nat.le_of_ble_eq_true rfl, Nat.le_of_ble_eq_true rfl⟩) gK_ok hK hW hS hA rfl hl.1 rfl (Nat.le_of_ble_eq_true rfl) dX3_lay_10 ⟨Nat.le_of_ble_eq_true rfl, Nat.le_of_ble_eq_true rfl⟩ rfl rfl (fun r_10 w_10 H locs hp_10 hW hz hS => ?_)
    obtain ⟨q_r, q_w⟩ := hp_10
    subst r_10
    subst w_10
    refine lv_if_ne (tgt := 19) hx hb dX3_lay_13 (by decide) (fun c_13 => ?_) (fun c_13 => ?_)
    ·
      have c_13 := (w_sort kd).mp (j_bn c_13)
      refine lv_aload_n hx hb dX3_lay_19 rfl (lv_at hl 0 rfl) ?_
      refine lv_aload_n hx hb dX3_lay_20 rfl (lv_at hl 0 rfl) ?_
      refine wd_get (ci := 3) (v := .int (nI XD.2)) (C := RX3) (T := TX3) (N := 18) hx hb hts (by decide +kernel) hown hK.1 hW hR.1 rfl 7 (by decide) (hts (.fieldLink RX3 108 "CharRowsModel" "drafted" "I") (by decide +kernel)) (fun _ h9 => h9) rfl dX3_lay_21 ?_
      refine wd_put (ci := 3) (v := .int (nI XD.2)) (ty := .int) (C := RX3) (T := TX3) (N := 18) hx hb hts (by decide +kernel) tyX3 tyX3_ok nmX3 hown hK.1 hW hS hR.1 rfl 13 (by decide) (hts (.fieldLink RX3 71 "CharRowsModel" "unitMany" "I") (by decide +kernel)) (fun _ h9 => h9) rfl (by decide +kernel) rfl rfl (Nat.le_of_ble_eq_true rfl) dX3_lay_24 (fun H locs hW hS => ?_)
      obtain ⟨w_v1, hW, hR⟩ : ∃ w', wd_P D vwCl (wd_A w sg.heap.size) w' H ∧ rW cI m A (fun t => oI (tx t)) (kI kp) (fun r => (rs r).1) (fun r => nI (rs r).2.length) fI kp.length cd pl XD XP (XU.1, XD.2) XO XB w' := ⟨_, hW, hR.cXU XD.2⟩
      refine lv_iconst (v := 0) hx hb dX3_lay_27 (by decide) ?_
      refine lv_istore_n (lv' := [(3, .int 0), (0, .ref m), (1, .int (nI tN)), (2, .int kd)]) hx hb dX3_lay_28 rfl hl (by decide) rfl (fun ls hl => ?_)
      refine wd_loop1 (fun (k : Nat) (H : Heap) (locs : List Loc) (ls : Array Slot) => (k ≤ XD.2) ∧ (∃ w', wd_P D vwCl (wd_A w sg.heap.size) w' H ∧ rW cI m A (fun t => oI (tx t)) (kI kp) (fun r => (rs r).1) (fun r => nI (rs r).2.length) fI kp.length cd pl XD XP (itN (fun j f => upd f j ((fun x => if kd = 2 then x &&& 255 else x) (XD.1 j))) k XU.1, XD.2) XO XB w') ∧ va_S (wd_A w sg.heap.size) sg.heap H locs ∧ lv_has ls 4 [(0, .ref m), (1, .int (nI tN)), (2, .int kd), (3, .int (nI k))]) (fun (k : Nat) => XD.2 - k) 0 ⟨(by omega), ⟨_, hW, hR⟩, hS, (lv_sub hl [1, 2, 3, 0] rfl)⟩ (fun k H locs ls hI ih_29 => ?_)
      obtain ⟨hk, ⟨w_l29, hW, hR⟩, hS, hl⟩ := hI
      refine lv_iload_n hx hb dX3_lay_29 rfl (lv_at hl 3 rfl) ?_
      refine lv_aload_n hx hb dX3_lay_30 rfl (lv_at hl 0 rfl) ?_
      refine wd_get (ci := 3) (v := .int (nI XD.2)) (C := RX3) (T := TX3) (N := 18) hx hb hts (by decide +kernel) hown hK.1 hW hR.1 rfl 7 (by decide) (hts (.fieldLink RX3 108 "CharRowsModel" "drafted" "I") (by decide +kernel)) (fun _ h9 => h9) rfl dX3_lay_31 ?_
      refine lv_icmp_ge (tgt := 73) hx hb dX3_lay_34 (by decide) (fun c_34 => ?_) (fun c_34 => ?_)
      ·
        have c_34 : XD.2 ≤ k := (nI_leI (by omega) (by omega)).mp (show (nI XD.2 ≤ nI k) from c_34)
        have hxu : rl (itN (fun j f => upd f j ((fun x => if kd = 2 then x &&& 255 else x) (XD.1 j))) k XU.1, XD.2) = df.map (fun x => if kd = 2 then x &&& 255 else x) := by rw [show k = XD.2 by omega, rl_layX (φ := fun x => if kd = 2 then x &&& 255 else x), hdf]
        refine lv_iload_n hx hb dX3_lay_73 rfl (lv_at hl 2 rfl) ?_
        refine lv_iconst (v := 1) hx hb dX3_lay_74 (by decide) ?_
        refine lv_icmp_eq (tgt := 93) hx hb dX3_lay_75 (by decide) (fun c_75 => ?_) (fun c_75 => ?_)
        ·
          refine lv_aload_n hx hb dX3_lay_93 rfl (lv_at hl 0 rfl) ?_
          refine wd_callVv (As := []) (rest := []) (c2 := 0) (s2 := 0) ⟨hx, hb, hml, hown, hts⟩ (k_X3_unitsToPoints l D cI cT w_l29 H.size m A (fun t => oI (tx t)) (kI kp) (fun r => (rs r).1) (fun r => nI (rs r).2.length) fI kp.length cd pl XD XP (itN (fun j f => upd f j ((fun x => if kd = 2 then x &&& 255 else x) (XD.1 j))) k XU.1, XD.2) XO XB hR (by show XD.2 ≤ 240; omega)) (cwV 0 hts gX3_lay_X3_unitsToPoints rfl rfl rfl (by decide +kernel) ⟨Nat.le_of_ble_eq_true rfl, Nat.le_of_ble_eq_true rfl⟩) gK_ok hK hW (wd_recv (ci := 3) hK.1 hW rfl hR.1) hS hA rfl hl.1 rfl (Nat.le_of_ble_eq_true rfl) dX3_lay_94 ⟨Nat.le_of_ble_eq_true rfl, Nat.le_of_ble_eq_true rfl⟩ rfl rfl (fun w_94 H locs hp_94 hW hz hS => ?_)
          obtain ⟨Y, hY, hR⟩ := hp_94
          have hY2 : rl Y = u_pts df := by rw [hY, hxu, c_75]; simp
          have hYc := rl_cnt hY2
          have hYl := u_pts_len df
          refine lv_aload_n hx hb dX3_lay_97 rfl (lv_at hl 0 rfl) ?_
          refine lv_iload_n hx hb dX3_lay_98 rfl (lv_at hl 1 rfl) ?_
          refine lv_iconst (v := 1) hx hb dX3_lay_99 (by decide) ?_
          refine lv_aload_n hx hb dX3_lay_100 rfl (lv_at hl 0 rfl) ?_
          refine wd_get (ci := 3) (v := .ref (A 6)) (C := RX3) (T := TX3) (N := 18) hx hb hts (by decide +kernel) hown hK.1 hW hR.1 rfl 10 (by decide) (hts (.fieldLink RX3 32 "CharRowsModel" "points" "[I") (by decide +kernel)) (fun _ h9 => h9) rfl dX3_lay_101 ?_
          refine lv_aload_n hx hb dX3_lay_104 rfl (lv_at hl 0 rfl) ?_
          refine wd_get (ci := 3) (v := .int (nI Y.2)) (C := RX3) (T := TX3) (N := 18) hx hb hts (by decide +kernel) hown hK.1 hW hR.1 rfl 11 (by decide) (hts (.fieldLink RX3 74 "CharRowsModel" "pointMany" "I") (by decide +kernel)) (fun _ h9 => h9) rfl dX3_lay_105 ?_
          refine wd_callVi (As := [.int (nI tN), .int 1, .ref (A 6), .int (nI Y.2)]) (rest := []) (c2 := 0) (s2 := 0) ⟨hx, hb, hml, hown, hts⟩ (k_X3_become6 l D cI cT w_94 H.size m A fI cd pl XD Y (itN (fun j f => upd f j ((fun x => if kd = 2 then x &&& 255 else x) (XD.1 j))) k XU.1, XD.2) XO XB tx kp rs tN 1 Y.2 hR (by omega) h10 hkp hlv hk24 hit (by omega)) (cwV 4 hts gX3_lay_X3_become rfl rfl rfl (by decide +kernel) ⟨Nat.le_of_ble_eq_true rfl, Nat.le_of_ble_eq_true rfl⟩) gK_ok hK hW (wd_recv (ci := 3) hK.1 hW rfl hR.1) hS hA rfl hl.1 rfl (Nat.le_of_ble_eq_true rfl) dX3_lay_108 ⟨Nat.le_of_ble_eq_true rfl, Nat.le_of_ble_eq_true rfl⟩ rfl rfl (fun r_108 w_108 H locs hp_108 hW hz hS => ?_)
          obtain ⟨q_r, f_108, hit_108, hR⟩ := hp_108
          subst r_108
          refine wd_iret hx hb hr hlocks hW hS dX3_lay_111 ?_
          have e9 : s_lay (cd, pl, df, tx, kp, rs) (nI tN) kd = (nI Y.2, 0, pl, df, (va_up tx tN (some (u_free tx kp))), kp, (va_up rs (u_free tx kp) (1, (rl (Y.1, Y.2))))) := by simp only [s_lay, if_neg (not_or.mpr ⟨c_4, c_13⟩), s_mk, if_pos c_75, hcl_t]; rw [c_75, show u_pts df = (rl (Y.1, Y.2)) from by rw [rl_eta, hY2], rl_len]; first | done | rfl
          show _ = (s_lay (cd, pl, df, tx, kp, rs) (nI tN) kd).1 ∧ InvR cI m (s_lay (cd, pl, df, tx, kp, rs) (nI tN) kd).2 _
          rw [e9]
          exact ⟨rfl, A, f_108, XD, Y, (itN (fun j f => upd f j ((fun x => if kd = 2 then x &&& 255 else x) (XD.1 j))) k XU.1, XD.2), XO, XB, hR, hdf, hit_108⟩
        ·
          refine lv_aload_n hx hb dX3_lay_78 rfl (lv_at hl 0 rfl) ?_
          refine lv_iload_n hx hb dX3_lay_79 rfl (lv_at hl 1 rfl) ?_
          refine lv_iload_n hx hb dX3_lay_80 rfl (lv_at hl 2 rfl) ?_
          refine lv_aload_n hx hb dX3_lay_81 rfl (lv_at hl 0 rfl) ?_
          refine wd_get (ci := 3) (v := .ref (A 7)) (C := RX3) (T := TX3) (N := 18) hx hb hts (by decide +kernel) hown hK.1 hW hR.1 rfl 12 (by decide) (hts (.fieldLink RX3 35 "CharRowsModel" "units" "[I") (by decide +kernel)) (fun _ h9 => h9) rfl dX3_lay_82 ?_
          refine lv_aload_n hx hb dX3_lay_85 rfl (lv_at hl 0 rfl) ?_
          refine wd_get (ci := 3) (v := .int (nI XD.2)) (C := RX3) (T := TX3) (N := 18) hx hb hts (by decide +kernel) hown hK.1 hW hR.1 rfl 13 (by decide) (hts (.fieldLink RX3 71 "CharRowsModel" "unitMany" "I") (by decide +kernel)) (fun _ h9 => h9) rfl dX3_lay_86 ?_
          refine wd_callVi (As := [.int (nI tN), .int kd, .ref (A 7), .int (nI XD.2)]) (rest := []) (c2 := 0) (s2 := 0) ⟨hx, hb, hml, hown, hts⟩ (k_X3_become7 l D cI cT w_l29 H.size m A fI cd pl XD XP (itN (fun j f => upd f j ((fun x => if kd = 2 then x &&& 255 else x) (XD.1 j))) k XU.1, XD.2) XO XB tx kp rs tN kd XD.2 hR (by omega) h10 hkp hlv hk24 hit (by omega)) (cwV 4 hts gX3_lay_X3_become rfl rfl rfl (by decide +kernel) ⟨Nat.le_of_ble_eq_true rfl, Nat.le_of_ble_eq_true rfl⟩) gK_ok hK hW (wd_recv (ci := 3) hK.1 hW rfl hR.1) hS hA rfl hl.1 rfl (Nat.le_of_ble_eq_true rfl) dX3_lay_89 ⟨Nat.le_of_ble_eq_true rfl, Nat.le_of_ble_eq_true rfl⟩ rfl rfl (fun r_89 w_89 H locs hp_89 hW hz hS => ?_)
          obtain ⟨q_r, f_89, hit_89, hR⟩ := hp_89
          subst r_89
          refine wd_iret hx hb hr hlocks hW hS dX3_lay_92 ?_
          have e9 : s_lay (cd, pl, df, tx, kp, rs) (nI tN) kd = (nI XD.2, 0, pl, df, (va_up tx tN (some (u_free tx kp))), kp, (va_up rs (u_free tx kp) (kd, (rl ((itN (fun j f => upd f j ((fun x => if kd = 2 then x &&& 255 else x) (XD.1 j))) k XU.1, XD.2).1, XD.2))))) := by simp only [s_lay, if_neg (not_or.mpr ⟨c_4, c_13⟩), s_mk, if_neg c_75, hcl_t]; rw [show df.map (fun x => x &&& j_mask kd) = (rl ((itN (fun j f => upd f j ((fun x => if kd = 2 then x &&& 255 else x) (XD.1 j))) k XU.1, XD.2).1, XD.2)) from by rw [hxu, j_mask]; by_cases h2 : kd = 2; simp [h2]; simp only [if_neg h2]; rw [map_and16 hwf.1.2]; simp, rl_len]; first | done | rfl
          show _ = (s_lay (cd, pl, df, tx, kp, rs) (nI tN) kd).1 ∧ InvR cI m (s_lay (cd, pl, df, tx, kp, rs) (nI tN) kd).2 _
          rw [e9]
          exact ⟨rfl, A, f_89, XD, XP, (itN (fun j f => upd f j ((fun x => if kd = 2 then x &&& 255 else x) (XD.1 j))) k XU.1, XD.2), XO, XB, hR, hdf, hit_89⟩
      ·
        have c_34 : ¬ (XD.2 ≤ k) := fun q9 => absurd ((nI_leI (by omega) (by omega)).mpr q9) (show ¬ (nI XD.2 ≤ nI k) from c_34)
        refine lv_aload_n hx hb dX3_lay_37 rfl (lv_at hl 0 rfl) ?_
        refine wd_get (ci := 3) (v := .ref (A 7)) (C := RX3) (T := TX3) (N := 18) hx hb hts (by decide +kernel) hown hK.1 hW hR.1 rfl 12 (by decide) (hts (.fieldLink RX3 35 "CharRowsModel" "units" "[I") (by decide +kernel)) (fun _ h9 => h9) rfl dX3_lay_38 ?_
        refine lv_iload_n hx hb dX3_lay_41 rfl (lv_at hl 3 rfl) ?_
        refine lv_iload_n hx hb dX3_lay_42 rfl (lv_at hl 2 rfl) ?_
        refine lv_iconst (v := 2) hx hb dX3_lay_43 (by decide) ?_
        refine lv_icmp_ne (tgt := 60) hx hb dX3_lay_44 (by decide) (fun c_44 => ?_) (fun c_44 => ?_)
        ·
          refine lv_aload_n hx hb dX3_lay_60 rfl (lv_at hl 0 rfl) ?_
          refine wd_get (ci := 3) (v := .ref (A 5)) (C := RX3) (T := TX3) (N := 18) hx hb hts (by decide +kernel) hown hK.1 hW hR.1 rfl 6 (by decide) (hts (.fieldLink RX3 25 "CharRowsModel" "draft" "[I") (by decide +kernel)) (fun _ h9 => h9) rfl dX3_lay_61 ?_
          refine lv_iload_n hx hb dX3_lay_64 rfl (lv_at hl 3 rfl) ?_
          refine wd_iald hx hb hK.1 hW 0 hR.2.2.2.2.2.2.1 rfl (vp_in_nI (by omega) (by omega)) dX3_lay_65 ?_
          refine wd_topE (y := XD.1 k) (by rw [nI_clamp (by omega)]) ?_
          refine wd_iast hx hb hK.1 hW hS 0 hR.2.2.2.2.2.2.2.2.1 rfl (vp_in_nI (by omega) (by omega)) dX3_lay_66 (fun H locs hW hS => ?_)
          rw [nI_clamp (by omega)] at hW
          obtain ⟨w_v2, hW, hR⟩ : ∃ w', wd_P D vwCl (wd_A w sg.heap.size) w' H ∧ rW cI m A (fun t => oI (tx t)) (kI kp) (fun r => (rs r).1) (fun r => nI (rs r).2.length) fI kp.length cd pl XD XP ((upd (itN (fun j f => upd f j ((fun x => if kd = 2 then x &&& 255 else x) (XD.1 j))) k XU.1) k (XD.1 k)), XD.2) XO XB w' := ⟨_, hW, hR.aXU (upd (itN (fun j f => upd f j ((fun x => if kd = 2 then x &&& 255 else x) (XD.1 j))) k XU.1) k (XD.1 k))⟩
          refine lv_iinc (v := nI (k + 1)) (lv' := [(3, .int (nI (k + 1))), (0, .ref m), (1, .int (nI tN)), (2, .int kd)]) hx hb dX3_lay_67 hl (k := 3) rfl (nI_add k 1) (by decide) rfl (fun ls hl => ?_)
          refine lv_goto (tgt := 29) hx hb dX3_lay_70 (by decide) ?_
          exact ih_29 (k + 1) H locs ls ⟨(by omega), ⟨_, hW, (by rw [show itN (fun j f => upd f j ((fun x => if kd = 2 then x &&& 255 else x) (XD.1 j))) (k + 1) XU.1 = _ from by (show upd _ k (if kd = 2 then XD.1 k &&& 255 else XD.1 k) = _; rw [if_neg c_44])]; exact hR)⟩, hS, (lv_sub hl [1, 2, 3, 0] rfl)⟩ (by omega)
        ·
          refine lv_aload_n hx hb dX3_lay_47 rfl (lv_at hl 0 rfl) ?_
          refine wd_get (ci := 3) (v := .ref (A 5)) (C := RX3) (T := TX3) (N := 18) hx hb hts (by decide +kernel) hown hK.1 hW hR.1 rfl 6 (by decide) (hts (.fieldLink RX3 25 "CharRowsModel" "draft" "[I") (by decide +kernel)) (fun _ h9 => h9) rfl dX3_lay_48 ?_
          refine lv_iload_n hx hb dX3_lay_51 rfl (lv_at hl 3 rfl) ?_
          refine wd_iald hx hb hK.1 hW 0 hR.2.2.2.2.2.2.1 rfl (vp_in_nI (by omega) (by omega)) dX3_lay_52 ?_
          refine wd_topE (y := XD.1 k) (by rw [nI_clamp (by omega)]) ?_
          refine lv_sipush (v := 255) hx hb dX3_lay_53 (by decide) ?_
          refine lv_iand hx hb dX3_lay_56 ?_
          refine lv_goto (tgt := 66) hx hb dX3_lay_57 (by decide) ?_
          refine wd_iast hx hb hK.1 hW hS 0 hR.2.2.2.2.2.2.2.2.1 rfl (vp_in_nI (by omega) (by omega)) dX3_lay_66 (fun H locs hW hS => ?_)
          rw [nI_clamp (by omega)] at hW
          obtain ⟨w_v3, hW, hR⟩ : ∃ w', wd_P D vwCl (wd_A w sg.heap.size) w' H ∧ rW cI m A (fun t => oI (tx t)) (kI kp) (fun r => (rs r).1) (fun r => nI (rs r).2.length) fI kp.length cd pl XD XP ((upd (itN (fun j f => upd f j ((fun x => if kd = 2 then x &&& 255 else x) (XD.1 j))) k XU.1) k ((XD.1 k) &&& 255)), XD.2) XO XB w' := ⟨_, hW, hR.aXU (upd (itN (fun j f => upd f j ((fun x => if kd = 2 then x &&& 255 else x) (XD.1 j))) k XU.1) k ((XD.1 k) &&& 255))⟩
          refine lv_iinc (v := nI (k + 1)) (lv' := [(3, .int (nI (k + 1))), (0, .ref m), (1, .int (nI tN)), (2, .int kd)]) hx hb dX3_lay_67 hl (k := 3) rfl (nI_add k 1) (by decide) rfl (fun ls hl => ?_)
          refine lv_goto (tgt := 29) hx hb dX3_lay_70 (by decide) ?_
          exact ih_29 (k + 1) H locs ls ⟨(by omega), ⟨_, hW, (by rw [show itN (fun j f => upd f j ((fun x => if kd = 2 then x &&& 255 else x) (XD.1 j))) (k + 1) XU.1 = _ from by (show upd _ k (if kd = 2 then XD.1 k &&& 255 else XD.1 k) = _; rw [if_pos c_44])]; exact hR)⟩, hS, (lv_sub hl [1, 2, 3, 0] rfl)⟩ (by omega)
    ·
      have c_13 := w_no (w_sort kd) (j_b0 c_13)
      refine lv_ldc (v := (-2000000001)) hx hb hown (hts (.constant RX3 107 (-2000000001)) (by decide +kernel)) dX3_lay_16 ?_
      refine wd_iret hx hb hr hlocks hW hS dX3_lay_18 ?_
      have e9 : s_lay (cd, pl, df, tx, kp, rs) (nI tN) kd = ((-2000000001), cd, pl, df, tx, kp, rs) := by simp only [s_lay, if_pos (Or.inr c_13), hcl_t]
      show _ = (s_lay (cd, pl, df, tx, kp, rs) (nI tN) kd).1 ∧ InvR cI m (s_lay (cd, pl, df, tx, kp, rs) (nI tN) kd).2 _
      rw [e9]
      exact ⟨rfl, A, fI, XD, XP, XU, XO, XB, hR, hdf, hit⟩
set_option maxHeartbeats 4000000 in
set_option maxRecDepth 100000 in
theorem k_X3_put (l : Launch) (D : va_G) (cI cT : ClassId) (w : Wd) (sz : Nat) (m : Nat) (cd : Int32) (pl : Int32) (df : List Int32) (tx : Nat → Option Nat) (kp : List Nat) (rs : Rws) (t : Int32) (k : Int32) (v : Int32) (hwf : WF (cd, pl, df, tx, kp, rs)) (hI : InvR cI m (cd, pl, df, tx, kp, rs) w) : wd_Mi l D vwCl (gK D cI cT) yX3_put wsX3_put (wd_rm 2 0 0) [.ref m, .int t, .int k, .int v] w sz (fun r w' => r = (s_put (cd, pl, df, tx, kp, rs) t k v).1 ∧ InvR cI m (s_put (cd, pl, df, tx, kp, rs) t k v).2 w') := by
  refine wd_met (cc := cX3_put) (maxL := 7) (ret := (some .int)) (by decide) rfl (Nat.le_of_ble_eq_true rfl) ?_
  intro pg ev sg mi bl mt cde ls C0 hsz hK hW hl
  obtain ⟨hx, hb, hr, hml, hown, hts, hlocks, hnm⟩ := C0
  subst hsz
  have hown : sg.vm.findClass RX3 = some mi.cls := hown
  have hS : va_S (wd_A w sg.heap.size) sg.heap sg.heap [] := va_S.rf
  have hA : ∀ q, sg.heap.size ≤ q → wd_A w sg.heap.size q := fun q h => Or.inr h
  have hl : lv_has ls 7 [(0, .ref m), (1, .int t), (2, .int k), (3, .int v)] := hl
  obtain ⟨A, fI, XD, XP, XU, XO, XB, hR, hdf, hit⟩ := hI
  dsimp only at hR hdf hit
  have h10 : ∀ t, 10 ≤ t → tx t = none := hwf.2.1
  have hkp : kp.length ≤ 12 := hwf.2.2.1
  have hlv : ∀ t r, tx t = some r → r < 24 := fun t r h => (hwf.2.2.2.1 r (Or.inl ⟨t, h⟩)).1
  have hok : ∀ t r, tx t = some r → rOK (rs r) := fun t r h => (hwf.2.2.2.1 r (Or.inl ⟨t, h⟩)).2
  have hk24 : ∀ r ∈ kp, r < 24 := fun r h => (hwf.2.2.2.1 r (Or.inr h)).1
  have hdl : df.length = XD.2 := by rw [← hdf, rl_len]
  have hd60 : df.length ≤ 60 := hwf.1.1
  refine lv_iload_n hx hb dX3_put_0 rfl (lv_at hl 1 rfl) ?_
  refine wd_callSi (As := [.int t]) (rest := []) (c2 := 0) (s2 := 0) ⟨hx, hb, hml, hown, hts⟩ (k_X3_isText l D cI cT w sg.heap.size t ) (va_cwS 1 hts gX3_put_X3_isText rfl rfl rfl (by decide +kernel) ⟨Nat.le_of_ble_eq_true rfl, Nat.le_of_ble_eq_true rfl⟩) gK_ok hK hW hS hA rfl hl.1 rfl (Nat.le_of_ble_eq_true rfl) dX3_put_1 ⟨Nat.le_of_ble_eq_true rfl, Nat.le_of_ble_eq_true rfl⟩ rfl rfl (fun r_1 w_1 H locs hp_1 hW hz hS => ?_)
  obtain ⟨q_r, q_w⟩ := hp_1
  subst r_1
  subst w_1
  refine lv_if_ne (tgt := 10) hx hb dX3_put_4 (by decide) (fun c_4 => ?_) (fun c_4 => ?_)
  ·
    have c_4 := j_bn c_4
    obtain ⟨tN, htN, htE⟩ := nt_spec c_4
    subst htE
    have hcl_t : (nI tN).toNatClampNeg = tN := nI_clamp (by omega)
    refine lv_aload_n hx hb dX3_put_10 rfl (lv_at hl 0 rfl) ?_
    refine lv_iload_n hx hb dX3_put_11 rfl (lv_at hl 1 rfl) ?_
    refine wd_callVi (As := [.int (nI tN)]) (rest := []) (c2 := 0) (s2 := 0) ⟨hx, hb, hml, hown, hts⟩ (k_X3_sortOf l D cI cT w H.size m A (kI kp) (fun r => nI (rs r).2.length) fI kp.length cd pl XD XP XU XO XB tx rs tN hR (by omega) hlv) (cwV 1 hts gX3_put_X3_sortOf rfl rfl rfl (by decide +kernel) ⟨Nat.le_of_ble_eq_true rfl, Nat.le_of_ble_eq_true rfl⟩) gK_ok hK hW (wd_recv (ci := 3) hK.1 hW rfl hR.1) hS hA rfl hl.1 rfl (Nat.le_of_ble_eq_true rfl) dX3_put_12 ⟨Nat.le_of_ble_eq_true rfl, Nat.le_of_ble_eq_true rfl⟩ rfl rfl (fun r_12 w_12 H locs hp_12 hW hz hS => ?_)
    obtain ⟨q_r, q_w⟩ := hp_12
    subst r_12
    subst w_12
    cases htx_12 : tx tN with
    | none =>
      refine wd_topE (y := -1) rfl ?_
      refine lv_istore (lv' := [(4, .int (-1)), (0, .ref m), (1, .int (nI tN)), (2, .int k), (3, .int v)]) hx hb dX3_put_15 hl (by decide) rfl (fun ls hl => ?_)
      refine lv_iload hx hb dX3_put_17 (lv_at hl 0 rfl) ?_
      refine lv_iconst (v := (-1)) hx hb dX3_put_19 (by decide) ?_
      refine lv_icmp_ne (tgt := 27) hx hb dX3_put_20 (by decide) (fun c_20 => ?_) (fun c_20 => ?_)
      ·
        exact absurd rfl c_20
      ·
        refine lv_iconst (v := 1) hx hb dX3_put_23 (by decide) ?_
        refine lv_goto (tgt := 57) hx hb dX3_put_24 (by decide) ?_
        refine lv_istore (lv' := [(5, .int 1), (4, .int (-1)), (0, .ref m), (1, .int (nI tN)), (2, .int k), (3, .int v)]) hx hb dX3_put_57 hl (by decide) rfl (fun ls hl => ?_)
        refine lv_iload hx hb dX3_put_59 (lv_at hl 0 rfl) ?_
        refine lv_if_eq (tgt := 71) hx hb dX3_put_61 (by decide) (fun c_61 => ?_) (fun c_61 => ?_)
        ·
          exact absurd c_61 (by decide)
        ·
          refine lv_aload_n hx hb dX3_put_64 rfl (lv_at hl 2 rfl) ?_
          refine lv_iload hx hb dX3_put_65 (lv_at hl 0 rfl) ?_
          refine wd_callVi (As := [.int 1]) (rest := []) (c2 := 0) (s2 := 0) ⟨hx, hb, hml, hown, hts⟩ (k_X3_no l D cI cT w H.size m A (fun t => oI (tx t)) (kI kp) (fun r => (rs r).1) (fun r => nI (rs r).2.length) fI kp.length cd pl XD XP XU XO XB 1 hR) (cwV 1 hts gX3_put_X3_no rfl rfl rfl (by decide +kernel) ⟨Nat.le_of_ble_eq_true rfl, Nat.le_of_ble_eq_true rfl⟩) gK_ok hK hW (wd_recv (ci := 3) hK.1 hW rfl hR.1) hS hA rfl hl.1 rfl (Nat.le_of_ble_eq_true rfl) dX3_put_67 ⟨Nat.le_of_ble_eq_true rfl, Nat.le_of_ble_eq_true rfl⟩ rfl rfl (fun r_67 w_67 H locs hp_67 hW hz hS => ?_)
          obtain ⟨q_r, hR⟩ := hp_67
          subst r_67
          refine wd_iret hx hb hr hlocks hW hS dX3_put_70 ?_
          have e9 : s_put (cd, pl, df, tx, kp, rs) (nI tN) k v = (0, 1, pl, df, tx, kp, rs) := by simp only [s_put, if_neg c_4, s_no, s_rs, hcl_t, htx_12]
          show _ = (s_put (cd, pl, df, tx, kp, rs) (nI tN) k v).1 ∧ InvR cI m (s_put (cd, pl, df, tx, kp, rs) (nI tN) k v).2 _
          rw [e9]
          exact ⟨rfl, A, fI, XD, XP, XU, XO, XB, hR, hdf, hit⟩
    | some r_12 =>
      refine wd_topE (y := (rs r_12).1) rfl ?_
      have hr24_12 := hlv _ _ htx_12
      refine lv_istore (lv' := [(4, .int ((rs r_12).1)), (0, .ref m), (1, .int (nI tN)), (2, .int k), (3, .int v)]) hx hb dX3_put_15 hl (by decide) rfl (fun ls hl => ?_)
      refine lv_iload hx hb dX3_put_17 (lv_at hl 0 rfl) ?_
      refine lv_iconst (v := (-1)) hx hb dX3_put_19 (by decide) ?_
      refine lv_icmp_ne (tgt := 27) hx hb dX3_put_20 (by decide) (fun c_20 => ?_) (fun c_20 => ?_)
      ·
        refine lv_iload hx hb dX3_put_27 (lv_at hl 0 rfl) ?_
        refine lv_iconst (v := 1) hx hb dX3_put_29 (by decide) ?_
        refine lv_icmp_ne (tgt := 37) hx hb dX3_put_30 (by decide) (fun c_30 => ?_) (fun c_30 => ?_)
        ·
          refine lv_iload_n hx hb dX3_put_37 rfl (lv_at hl 3 rfl) ?_
          refine lv_iconst (v := 0) hx hb dX3_put_38 (by decide) ?_
          refine lv_aload_n hx hb dX3_put_39 rfl (lv_at hl 1 rfl) ?_
          refine lv_iload_n hx hb dX3_put_40 rfl (lv_at hl 2 rfl) ?_
          refine wd_callVi (As := [.int (nI tN)]) (rest := [.int 0, .int k]) (c2 := 0) (s2 := 0) ⟨hx, hb, hml, hown, hts⟩ (k_X3_manyOf l D cI cT w H.size m A (kI kp) (fun r => (rs r).1) fI kp.length cd pl XD XP XU XO XB tx rs tN r_12 hR (by omega) htx_12 hr24_12) (cwV 1 hts gX3_put_X3_manyOf rfl rfl rfl (by decide +kernel) ⟨Nat.le_of_ble_eq_true rfl, Nat.le_of_ble_eq_true rfl⟩) gK_ok hK hW (wd_recv (ci := 3) hK.1 hW rfl hR.1) hS hA rfl hl.1 rfl (Nat.le_of_ble_eq_true rfl) dX3_put_41 ⟨Nat.le_of_ble_eq_true rfl, Nat.le_of_ble_eq_true rfl⟩ rfl rfl (fun r_41 w_41 H locs hp_41 hW hz hS => ?_)
          obtain ⟨q_r, q_w⟩ := hp_41
          subst r_41
          subst w_41
          refine lv_iconst (v := 1) hx hb dX3_put_44 (by decide) ?_
          refine lv_isub hx hb dX3_put_45 ?_
          refine wd_callSi (As := [.int k, .int 0, .int ((nI ((rs r_12).2.length)) - 1)]) (rest := []) (c2 := 0) (s2 := 0) ⟨hx, hb, hml, hown, hts⟩ (k_X3_within l D cI cT w H.size k 0 ((nI ((rs r_12).2.length)) - 1) ) (va_cwS 3 hts gX3_put_X3_within rfl rfl rfl (by decide +kernel) ⟨Nat.le_of_ble_eq_true rfl, Nat.le_of_ble_eq_true rfl⟩) gK_ok hK hW hS hA rfl hl.1 rfl (Nat.le_of_ble_eq_true rfl) dX3_put_46 ⟨Nat.le_of_ble_eq_true rfl, Nat.le_of_ble_eq_true rfl⟩ rfl rfl (fun r_46 w_46 H locs hp_46 hW hz hS => ?_)
          obtain ⟨q_r, q_w⟩ := hp_46
          subst r_46
          subst w_46
          refine lv_if_eq (tgt := 56) hx hb dX3_put_49 (by decide) (fun c_49 => ?_) (fun c_49 => ?_)
          ·
            have c_49 := w_no (w_out (k := k) (len := (rs r_12).2.length) (by have := (hok _ _ htx_12).len; omega)) (j_b0 c_49)
            refine lv_iconst (v := 3) hx hb dX3_put_56 (by decide) ?_
            refine lv_istore (lv' := [(5, .int 3), (4, .int ((rs r_12).1)), (0, .ref m), (1, .int (nI tN)), (2, .int k), (3, .int v)]) hx hb dX3_put_57 hl (by decide) rfl (fun ls hl => ?_)
            refine lv_iload hx hb dX3_put_59 (lv_at hl 0 rfl) ?_
            refine lv_if_eq (tgt := 71) hx hb dX3_put_61 (by decide) (fun c_61 => ?_) (fun c_61 => ?_)
            ·
              exact absurd c_61 (by decide)
            ·
              refine lv_aload_n hx hb dX3_put_64 rfl (lv_at hl 2 rfl) ?_
              refine lv_iload hx hb dX3_put_65 (lv_at hl 0 rfl) ?_
              refine wd_callVi (As := [.int 3]) (rest := []) (c2 := 0) (s2 := 0) ⟨hx, hb, hml, hown, hts⟩ (k_X3_no l D cI cT w H.size m A (fun t => oI (tx t)) (kI kp) (fun r => (rs r).1) (fun r => nI (rs r).2.length) fI kp.length cd pl XD XP XU XO XB 3 hR) (cwV 1 hts gX3_put_X3_no rfl rfl rfl (by decide +kernel) ⟨Nat.le_of_ble_eq_true rfl, Nat.le_of_ble_eq_true rfl⟩) gK_ok hK hW (wd_recv (ci := 3) hK.1 hW rfl hR.1) hS hA rfl hl.1 rfl (Nat.le_of_ble_eq_true rfl) dX3_put_67 ⟨Nat.le_of_ble_eq_true rfl, Nat.le_of_ble_eq_true rfl⟩ rfl rfl (fun r_67 w_67 H locs hp_67 hW hz hS => ?_)
              obtain ⟨q_r, hR⟩ := hp_67
              subst r_67
              refine wd_iret hx hb hr hlocks hW hS dX3_put_70 ?_
              have e9 : s_put (cd, pl, df, tx, kp, rs) (nI tN) k v = (0, 3, pl, df, tx, kp, rs) := by simp only [s_put, if_neg c_4, s_no, s_rs, if_neg c_30, if_pos c_49, hcl_t, htx_12]
              show _ = (s_put (cd, pl, df, tx, kp, rs) (nI tN) k v).1 ∧ InvR cI m (s_put (cd, pl, df, tx, kp, rs) (nI tN) k v).2 _
              rw [e9]
              exact ⟨rfl, A, fI, XD, XP, XU, XO, XB, hR, hdf, hit⟩
          ·
            have c_49 := (w_out (k := k) (len := (rs r_12).2.length) (by have := (hok _ _ htx_12).len; omega)).mp (j_bn c_49)
            have hlen := (hok _ _ htx_12).len
            obtain ⟨kN, hkN, hkE⟩ := out_spec (by omega) c_49
            subst hkE
            have hcl_k : (nI kN).toNatClampNeg = kN := nI_clamp (by omega)
            refine lv_iconst (v := 0) hx hb dX3_put_52 (by decide) ?_
            refine lv_goto (tgt := 57) hx hb dX3_put_53 (by decide) ?_
            refine lv_istore (lv' := [(5, .int 0), (4, .int ((rs r_12).1)), (0, .ref m), (1, .int (nI tN)), (2, .int (nI kN)), (3, .int v)]) hx hb dX3_put_57 hl (by decide) rfl (fun ls hl => ?_)
            refine lv_iload hx hb dX3_put_59 (lv_at hl 0 rfl) ?_
            refine lv_if_eq (tgt := 71) hx hb dX3_put_61 (by decide) (fun c_61 => ?_) (fun c_61 => ?_)
            ·
              refine lv_aload_n hx hb dX3_put_71 rfl (lv_at hl 2 rfl) ?_
              refine lv_iload_n hx hb dX3_put_72 rfl (lv_at hl 3 rfl) ?_
              refine lv_iload_n hx hb dX3_put_73 rfl (lv_at hl 4 rfl) ?_
              refine wd_callVi (As := [.int (nI tN), .int (nI kN)]) (rest := []) (c2 := 0) (s2 := 0) ⟨hx, hb, hml, hown, hts⟩ (k_X3_item l D cI cT w H.size m A (kI kp) (fun r => (rs r).1) (fun r => nI (rs r).2.length) fI kp.length cd pl XD XP XU XO XB tx rs tN r_12 kN hR (by omega) htx_12 hr24_12 hit (by omega)) (cwV 2 hts gX3_put_X3_item rfl rfl rfl (by decide +kernel) ⟨Nat.le_of_ble_eq_true rfl, Nat.le_of_ble_eq_true rfl⟩) gK_ok hK hW (wd_recv (ci := 3) hK.1 hW rfl hR.1) hS hA rfl hl.1 rfl (Nat.le_of_ble_eq_true rfl) dX3_put_74 ⟨Nat.le_of_ble_eq_true rfl, Nat.le_of_ble_eq_true rfl⟩ rfl rfl (fun r_74 w_74 H locs hp_74 hW hz hS => ?_)
              obtain ⟨q_r, q_w⟩ := hp_74
              subst r_74
              subst w_74
              refine lv_istore (lv' := [(6, .int (lf (rs r_12).2 kN)), (5, .int 0), (4, .int ((rs r_12).1)), (0, .ref m), (1, .int (nI tN)), (2, .int (nI kN)), (3, .int v)]) hx hb dX3_put_77 hl (by decide) rfl (fun ls hl => ?_)
              refine lv_aload_n hx hb dX3_put_79 rfl (lv_at hl 3 rfl) ?_
              refine wd_get (ci := 3) (v := .ref (A 4)) (C := RX3) (T := TX3) (N := 18) hx hb hts (by decide +kernel) hown hK.1 hW hR.1 rfl 5 (by decide) (hts (.fieldLink RX3 22 "CharRowsModel" "rowItem" "[I") (by decide +kernel)) (fun _ h9 => h9) rfl dX3_put_80 ?_
              refine lv_sipush (v := 240) hx hb dX3_put_83 (by decide) ?_
              refine lv_aload_n hx hb dX3_put_86 rfl (lv_at hl 3 rfl) ?_
              refine wd_get (ci := 3) (v := .ref (A 0)) (C := RX3) (T := TX3) (N := 18) hx hb hts (by decide +kernel) hown hK.1 hW hR.1 rfl 0 (by decide) (hts (.fieldLink RX3 7 "CharRowsModel" "textRow" "[I") (by decide +kernel)) (fun _ h9 => h9) rfl dX3_put_87 ?_
              refine lv_iload_n hx hb dX3_put_90 rfl (lv_at hl 4 rfl) ?_
              refine wd_iald hx hb hK.1 hW 0 hR.2.1 rfl (vp_in_nI (by omega) (by omega)) dX3_put_91 ?_
              refine wd_topE (y := nI r_12) (by rw [nI_clamp (by omega)]; show oI (tx tN) = _; rw [htx_12]; rfl) ?_
              refine lv_imul hx hb dX3_put_92 ?_
              refine wd_topE (y := nI (240 * r_12)) (pk_mul 240 _) ?_
              refine lv_iload_n hx hb dX3_put_93 rfl (lv_at hl 5 rfl) ?_
              refine lv_iadd hx hb dX3_put_94 ?_
              refine wd_topE (y := nI (240 * r_12 + kN)) (nI_add _ _) ?_
              refine lv_iload hx hb dX3_put_95 (lv_at hl 2 rfl) ?_
              refine lv_if_ne (tgt := 107) hx hb dX3_put_97 (by decide) (fun c_97 => ?_) (fun c_97 => ?_)
              ·
                refine lv_iload_n hx hb dX3_put_107 rfl (lv_at hl 6 rfl) ?_
                refine lv_sipush (v := 255) hx hb dX3_put_108 (by decide) ?_
                refine lv_iand hx hb dX3_put_111 ?_
                refine wd_iast hx hb hK.1 hW hS 0 hR.2.2.2.2.2.1 rfl (vp_in_nI (by omega) (by omega)) dX3_put_112 (fun H locs hW hS => ?_)
                rw [nI_clamp (by omega)] at hW
                obtain ⟨w_v1, hW, hR⟩ : ∃ w', wd_P D vwCl (wd_A w sg.heap.size) w' H ∧ rW cI m A (fun t => oI (tx t)) (kI kp) (fun r => (rs r).1) (fun r => nI (rs r).2.length) (upd fI (240 * r_12 + kN) (v &&& 255)) kp.length cd pl XD XP XU XO XB w' := ⟨_, hW, hR.afI (upd fI (240 * r_12 + kN) (v &&& 255))⟩
                have hit2 := rIt_set (v := v &&& 255) hit hr24_12 hkN
                rw [upS0 rs r_12 ((rs r_12).2.set kN (v &&& 255)), upM0 rs r_12 ((rs r_12).2.set kN (v &&& 255)) (List.length_set ..)] at hR
                refine lv_aload_n hx hb dX3_put_113 rfl (lv_at hl 3 rfl) ?_
                refine lv_iload hx hb dX3_put_114 (lv_at hl 0 rfl) ?_
                refine wd_callVi (As := [.int (lf (rs r_12).2 kN)]) (rest := []) (c2 := 0) (s2 := 0) ⟨hx, hb, hml, hown, hts⟩ (k_X3_yes l D cI cT w_v1 H.size m A (fun t => oI (tx t)) (kI kp) (fun r => ((va_up rs r_12 ((rs r_12).1, ((rs r_12).2.set kN (v &&& 255)))) r).1) (fun r => nI ((va_up rs r_12 ((rs r_12).1, ((rs r_12).2.set kN (v &&& 255)))) r).2.length) (upd fI (240 * r_12 + kN) (v &&& 255)) kp.length cd pl XD XP XU XO XB (lf (rs r_12).2 kN) hR) (cwV 1 hts gX3_put_X3_yes rfl rfl rfl (by decide +kernel) ⟨Nat.le_of_ble_eq_true rfl, Nat.le_of_ble_eq_true rfl⟩) gK_ok hK hW (wd_recv (ci := 3) hK.1 hW rfl hR.1) hS hA rfl hl.1 rfl (Nat.le_of_ble_eq_true rfl) dX3_put_116 ⟨Nat.le_of_ble_eq_true rfl, Nat.le_of_ble_eq_true rfl⟩ rfl rfl (fun r_116 w_116 H locs hp_116 hW hz hS => ?_)
                obtain ⟨q_r, hR⟩ := hp_116
                subst r_116
                refine wd_iret hx hb hr hlocks hW hS dX3_put_119 ?_
                have e9 : s_put (cd, pl, df, tx, kp, rs) (nI tN) (nI kN) v = (lf (rs r_12).2 kN, 0, pl, df, tx, kp, (va_up rs r_12 ((rs r_12).1, ((rs r_12).2.set kN (v &&& 255))))) := by simp only [s_put, if_neg c_4, s_no, s_rs, if_neg c_30, if_neg c_49, show j_mask (rs r_12).1 = 255 from by rw [j_mask, (hok _ _ htx_12).two c_97 c_30]; rfl, hcl_t, hcl_k, htx_12]
                show _ = (s_put (cd, pl, df, tx, kp, rs) (nI tN) (nI kN) v).1 ∧ InvR cI m (s_put (cd, pl, df, tx, kp, rs) (nI tN) (nI kN) v).2 _
                rw [e9]
                exact ⟨rfl, A, (upd fI (240 * r_12 + kN) (v &&& 255)), XD, XP, XU, XO, XB, hR, hdf, hit2⟩
              ·
                refine lv_iload_n hx hb dX3_put_100 rfl (lv_at hl 6 rfl) ?_
                refine lv_ldc (v := 65535) hx hb hown (hts (.constant RX3 111 65535) (by decide +kernel)) dX3_put_101 ?_
                refine lv_iand hx hb dX3_put_103 ?_
                refine lv_goto (tgt := 112) hx hb dX3_put_104 (by decide) ?_
                refine wd_iast hx hb hK.1 hW hS 0 hR.2.2.2.2.2.1 rfl (vp_in_nI (by omega) (by omega)) dX3_put_112 (fun H locs hW hS => ?_)
                rw [nI_clamp (by omega)] at hW
                obtain ⟨w_v2, hW, hR⟩ : ∃ w', wd_P D vwCl (wd_A w sg.heap.size) w' H ∧ rW cI m A (fun t => oI (tx t)) (kI kp) (fun r => (rs r).1) (fun r => nI (rs r).2.length) (upd fI (240 * r_12 + kN) (v &&& 65535)) kp.length cd pl XD XP XU XO XB w' := ⟨_, hW, hR.afI (upd fI (240 * r_12 + kN) (v &&& 65535))⟩
                have hit2 := rIt_set (v := v &&& 65535) hit hr24_12 hkN
                rw [upS0 rs r_12 ((rs r_12).2.set kN (v &&& 65535)), upM0 rs r_12 ((rs r_12).2.set kN (v &&& 65535)) (List.length_set ..)] at hR
                refine lv_aload_n hx hb dX3_put_113 rfl (lv_at hl 3 rfl) ?_
                refine lv_iload hx hb dX3_put_114 (lv_at hl 0 rfl) ?_
                refine wd_callVi (As := [.int (lf (rs r_12).2 kN)]) (rest := []) (c2 := 0) (s2 := 0) ⟨hx, hb, hml, hown, hts⟩ (k_X3_yes l D cI cT w_v2 H.size m A (fun t => oI (tx t)) (kI kp) (fun r => ((va_up rs r_12 ((rs r_12).1, ((rs r_12).2.set kN (v &&& 65535)))) r).1) (fun r => nI ((va_up rs r_12 ((rs r_12).1, ((rs r_12).2.set kN (v &&& 65535)))) r).2.length) (upd fI (240 * r_12 + kN) (v &&& 65535)) kp.length cd pl XD XP XU XO XB (lf (rs r_12).2 kN) hR) (cwV 1 hts gX3_put_X3_yes rfl rfl rfl (by decide +kernel) ⟨Nat.le_of_ble_eq_true rfl, Nat.le_of_ble_eq_true rfl⟩) gK_ok hK hW (wd_recv (ci := 3) hK.1 hW rfl hR.1) hS hA rfl hl.1 rfl (Nat.le_of_ble_eq_true rfl) dX3_put_116 ⟨Nat.le_of_ble_eq_true rfl, Nat.le_of_ble_eq_true rfl⟩ rfl rfl (fun r_116 w_116 H locs hp_116 hW hz hS => ?_)
                obtain ⟨q_r, hR⟩ := hp_116
                subst r_116
                refine wd_iret hx hb hr hlocks hW hS dX3_put_119 ?_
                have e9 : s_put (cd, pl, df, tx, kp, rs) (nI tN) (nI kN) v = (lf (rs r_12).2 kN, 0, pl, df, tx, kp, (va_up rs r_12 ((rs r_12).1, ((rs r_12).2.set kN (v &&& 65535))))) := by simp only [s_put, if_neg c_4, s_no, s_rs, if_neg c_30, if_neg c_49, show j_mask (rs r_12).1 = 65535 from by rw [j_mask, c_97]; rfl, hcl_t, hcl_k, htx_12]
                show _ = (s_put (cd, pl, df, tx, kp, rs) (nI tN) (nI kN) v).1 ∧ InvR cI m (s_put (cd, pl, df, tx, kp, rs) (nI tN) (nI kN) v).2 _
                rw [e9]
                exact ⟨rfl, A, (upd fI (240 * r_12 + kN) (v &&& 65535)), XD, XP, XU, XO, XB, hR, hdf, hit2⟩
            ·
              exact absurd rfl c_61
        ·
          refine lv_iconst (v := 2) hx hb dX3_put_33 (by decide) ?_
          refine lv_goto (tgt := 57) hx hb dX3_put_34 (by decide) ?_
          refine lv_istore (lv' := [(5, .int 2), (4, .int ((rs r_12).1)), (0, .ref m), (1, .int (nI tN)), (2, .int k), (3, .int v)]) hx hb dX3_put_57 hl (by decide) rfl (fun ls hl => ?_)
          refine lv_iload hx hb dX3_put_59 (lv_at hl 0 rfl) ?_
          refine lv_if_eq (tgt := 71) hx hb dX3_put_61 (by decide) (fun c_61 => ?_) (fun c_61 => ?_)
          ·
            exact absurd c_61 (by decide)
          ·
            refine lv_aload_n hx hb dX3_put_64 rfl (lv_at hl 2 rfl) ?_
            refine lv_iload hx hb dX3_put_65 (lv_at hl 0 rfl) ?_
            refine wd_callVi (As := [.int 2]) (rest := []) (c2 := 0) (s2 := 0) ⟨hx, hb, hml, hown, hts⟩ (k_X3_no l D cI cT w H.size m A (fun t => oI (tx t)) (kI kp) (fun r => (rs r).1) (fun r => nI (rs r).2.length) fI kp.length cd pl XD XP XU XO XB 2 hR) (cwV 1 hts gX3_put_X3_no rfl rfl rfl (by decide +kernel) ⟨Nat.le_of_ble_eq_true rfl, Nat.le_of_ble_eq_true rfl⟩) gK_ok hK hW (wd_recv (ci := 3) hK.1 hW rfl hR.1) hS hA rfl hl.1 rfl (Nat.le_of_ble_eq_true rfl) dX3_put_67 ⟨Nat.le_of_ble_eq_true rfl, Nat.le_of_ble_eq_true rfl⟩ rfl rfl (fun r_67 w_67 H locs hp_67 hW hz hS => ?_)
            obtain ⟨q_r, hR⟩ := hp_67
            subst r_67
            refine wd_iret hx hb hr hlocks hW hS dX3_put_70 ?_
            have e9 : s_put (cd, pl, df, tx, kp, rs) (nI tN) k v = (0, 2, pl, df, tx, kp, rs) := by simp only [s_put, if_neg c_4, s_no, s_rs, if_pos c_30, hcl_t, htx_12]
            show _ = (s_put (cd, pl, df, tx, kp, rs) (nI tN) k v).1 ∧ InvR cI m (s_put (cd, pl, df, tx, kp, rs) (nI tN) k v).2 _
            rw [e9]
            exact ⟨rfl, A, fI, XD, XP, XU, XO, XB, hR, hdf, hit⟩
      ·
        exact absurd c_20 (hok _ _ htx_12).nm1
  ·
    have c_4 := nt_of (j_b0 c_4)
    refine lv_ldc (v := (-2000000001)) hx hb hown (hts (.constant RX3 107 (-2000000001)) (by decide +kernel)) dX3_put_7 ?_
    refine wd_iret hx hb hr hlocks hW hS dX3_put_9 ?_
    have e9 : s_put (cd, pl, df, tx, kp, rs) t k v = ((-2000000001), cd, pl, df, tx, kp, rs) := by simp only [s_put, if_pos c_4, s_no, s_rs]
    show _ = (s_put (cd, pl, df, tx, kp, rs) t k v).1 ∧ InvR cI m (s_put (cd, pl, df, tx, kp, rs) t k v).2 _
    rw [e9]
    exact ⟨rfl, A, fI, XD, XP, XU, XO, XB, hR, hdf, hit⟩
set_option maxHeartbeats 4000000 in
set_option maxRecDepth 100000 in
theorem k_X3_turnInto (l : Launch) (D : va_G) (cI cT : ClassId) (w : Wd) (sz : Nat) (m : Nat) (cd : Int32) (pl : Int32) (df : List Int32) (tx : Nat → Option Nat) (kp : List Nat) (rs : Rws) (t : Int32) (u : Int32) (way : Int32) (hwf : WF (cd, pl, df, tx, kp, rs)) (hI : InvR cI m (cd, pl, df, tx, kp, rs) w) : wd_Mi l D vwCl (gK D cI cT) yX3_turnInto wsX3_turnInto (wd_rm 4 0 0) [.ref m, .int t, .int u, .int way] w sz (fun r w' => r = (s_turnInto (cd, pl, df, tx, kp, rs) t u way).1 ∧ InvR cI m (s_turnInto (cd, pl, df, tx, kp, rs) t u way).2 w') := by
  refine wd_met (cc := cX3_turnInto) (maxL := 5) (ret := (some .int)) (by decide) rfl (Nat.le_of_ble_eq_true rfl) ?_
  intro pg ev sg mi bl mt cde ls C0 hsz hK hW hl
  obtain ⟨hx, hb, hr, hml, hown, hts, hlocks, hnm⟩ := C0
  subst hsz
  have hown : sg.vm.findClass RX3 = some mi.cls := hown
  have hS : va_S (wd_A w sg.heap.size) sg.heap sg.heap [] := va_S.rf
  have hA : ∀ q, sg.heap.size ≤ q → wd_A w sg.heap.size q := fun q h => Or.inr h
  have hl : lv_has ls 5 [(0, .ref m), (1, .int t), (2, .int u), (3, .int way)] := hl
  obtain ⟨A, fI, XD, XP, XU, XO, XB, hR, hdf, hit⟩ := hI
  dsimp only at hR hdf hit
  have h10 : ∀ t, 10 ≤ t → tx t = none := hwf.2.1
  have hkp : kp.length ≤ 12 := hwf.2.2.1
  have hlv : ∀ t r, tx t = some r → r < 24 := fun t r h => (hwf.2.2.2.1 r (Or.inl ⟨t, h⟩)).1
  have hok : ∀ t r, tx t = some r → rOK (rs r) := fun t r h => (hwf.2.2.2.1 r (Or.inl ⟨t, h⟩)).2
  have hk24 : ∀ r ∈ kp, r < 24 := fun r h => (hwf.2.2.2.1 r (Or.inr h)).1
  have hdl : df.length = XD.2 := by rw [← hdf, rl_len]
  have hd60 : df.length ≤ 60 := hwf.1.1
  refine lv_iload_n hx hb dX3_turnInto_0 rfl (lv_at hl 1 rfl) ?_
  refine wd_callSi (As := [.int t]) (rest := []) (c2 := 0) (s2 := 0) ⟨hx, hb, hml, hown, hts⟩ (k_X3_isText l D cI cT w sg.heap.size t ) (va_cwS 1 hts gX3_turnInto_X3_isText rfl rfl rfl (by decide +kernel) ⟨Nat.le_of_ble_eq_true rfl, Nat.le_of_ble_eq_true rfl⟩) gK_ok hK hW hS hA rfl hl.1 rfl (Nat.le_of_ble_eq_true rfl) dX3_turnInto_1 ⟨Nat.le_of_ble_eq_true rfl, Nat.le_of_ble_eq_true rfl⟩ rfl rfl (fun r_1 w_1 H locs hp_1 hW hz hS => ?_)
  obtain ⟨q_r, q_w⟩ := hp_1
  subst r_1
  subst w_1
  refine lv_if_eq (tgt := 23) hx hb dX3_turnInto_4 (by decide) (fun c_4 => ?_) (fun c_4 => ?_)
  ·
    have c_4 := nt_of (j_b0 c_4)
    refine lv_ldc (v := (-2000000001)) hx hb hown (hts (.constant RX3 107 (-2000000001)) (by decide +kernel)) dX3_turnInto_23 ?_
    refine wd_iret hx hb hr hlocks hW hS dX3_turnInto_25 ?_
    have e9 : s_turnInto (cd, pl, df, tx, kp, rs) t u way = ((-2000000001), cd, pl, df, tx, kp, rs) := by simp only [s_turnInto, if_pos (Or.inl c_4), s_w1, s_no, s_mk]
    show _ = (s_turnInto (cd, pl, df, tx, kp, rs) t u way).1 ∧ InvR cI m (s_turnInto (cd, pl, df, tx, kp, rs) t u way).2 _
    rw [e9]
    exact ⟨rfl, A, fI, XD, XP, XU, XO, XB, hR, hdf, hit⟩
  ·
    have c_4 := j_bn c_4
    obtain ⟨tN, htN, htE⟩ := nt_spec c_4
    subst htE
    have hcl_t : (nI tN).toNatClampNeg = tN := nI_clamp (by omega)
    refine lv_iload_n hx hb dX3_turnInto_7 rfl (lv_at hl 2 rfl) ?_
    refine wd_callSi (As := [.int u]) (rest := []) (c2 := 0) (s2 := 0) ⟨hx, hb, hml, hown, hts⟩ (k_X3_isText l D cI cT w H.size u ) (va_cwS 1 hts gX3_turnInto_X3_isText rfl rfl rfl (by decide +kernel) ⟨Nat.le_of_ble_eq_true rfl, Nat.le_of_ble_eq_true rfl⟩) gK_ok hK hW hS hA rfl hl.1 rfl (Nat.le_of_ble_eq_true rfl) dX3_turnInto_8 ⟨Nat.le_of_ble_eq_true rfl, Nat.le_of_ble_eq_true rfl⟩ rfl rfl (fun r_8 w_8 H locs hp_8 hW hz hS => ?_)
    obtain ⟨q_r, q_w⟩ := hp_8
    subst r_8
    subst w_8
    refine lv_if_eq (tgt := 23) hx hb dX3_turnInto_11 (by decide) (fun c_11 => ?_) (fun c_11 => ?_)
    ·
      have c_11 := nt_of (j_b0 c_11)
      refine lv_ldc (v := (-2000000001)) hx hb hown (hts (.constant RX3 107 (-2000000001)) (by decide +kernel)) dX3_turnInto_23 ?_
      refine wd_iret hx hb hr hlocks hW hS dX3_turnInto_25 ?_
      have e9 : s_turnInto (cd, pl, df, tx, kp, rs) (nI tN) u way = ((-2000000001), cd, pl, df, tx, kp, rs) := by simp only [s_turnInto, if_pos (Or.inr (Or.inl c_11)), s_w1, s_no, s_mk, hcl_t]
      show _ = (s_turnInto (cd, pl, df, tx, kp, rs) (nI tN) u way).1 ∧ InvR cI m (s_turnInto (cd, pl, df, tx, kp, rs) (nI tN) u way).2 _
      rw [e9]
      exact ⟨rfl, A, fI, XD, XP, XU, XO, XB, hR, hdf, hit⟩
    ·
      have c_11 := j_bn c_11
      obtain ⟨uN, huN, huE⟩ := nt_spec c_11
      subst huE
      have hcl_u : (nI uN).toNatClampNeg = uN := nI_clamp (by omega)
      refine lv_iload_n hx hb dX3_turnInto_14 rfl (lv_at hl 3 rfl) ?_
      refine lv_iconst (v := 0) hx hb dX3_turnInto_15 (by decide) ?_
      refine lv_iconst (v := 1) hx hb dX3_turnInto_16 (by decide) ?_
      refine wd_callSi (As := [.int way, .int 0, .int 1]) (rest := []) (c2 := 0) (s2 := 0) ⟨hx, hb, hml, hown, hts⟩ (k_X3_within l D cI cT w H.size way 0 1 ) (va_cwS 3 hts gX3_turnInto_X3_within rfl rfl rfl (by decide +kernel) ⟨Nat.le_of_ble_eq_true rfl, Nat.le_of_ble_eq_true rfl⟩) gK_ok hK hW hS hA rfl hl.1 rfl (Nat.le_of_ble_eq_true rfl) dX3_turnInto_17 ⟨Nat.le_of_ble_eq_true rfl, Nat.le_of_ble_eq_true rfl⟩ rfl rfl (fun r_17 w_17 H locs hp_17 hW hz hS => ?_)
      obtain ⟨q_r, q_w⟩ := hp_17
      subst r_17
      subst w_17
      refine lv_if_ne (tgt := 26) hx hb dX3_turnInto_20 (by decide) (fun c_20 => ?_) (fun c_20 => ?_)
      ·
        have c_20 := (w_way way).mp (j_bn c_20)
        refine lv_aload_n hx hb dX3_turnInto_26 rfl (lv_at hl 0 rfl) ?_
        refine lv_iload_n hx hb dX3_turnInto_27 rfl (lv_at hl 2 rfl) ?_
        refine wd_callVi (As := [.int (nI uN)]) (rest := []) (c2 := 0) (s2 := 0) ⟨hx, hb, hml, hown, hts⟩ (k_X3_wantsPoints l D cI cT w H.size m A (kI kp) (fun r => nI (rs r).2.length) fI kp.length cd pl XD XP XU XO XB tx rs uN hR (by omega) hlv hok) (cwV 1 hts gX3_turnInto_X3_wantsPoints rfl rfl rfl (by decide +kernel) ⟨Nat.le_of_ble_eq_true rfl, Nat.le_of_ble_eq_true rfl⟩) gK_ok hK hW (wd_recv (ci := 3) hK.1 hW rfl hR.1) hS hA rfl hl.1 rfl (Nat.le_of_ble_eq_true rfl) dX3_turnInto_28 ⟨Nat.le_of_ble_eq_true rfl, Nat.le_of_ble_eq_true rfl⟩ rfl rfl (fun r_28 w_28 H locs hp_28 hW hz hS => ?_)
        obtain ⟨q_r, q_w⟩ := hp_28
        subst r_28
        subst w_28
        cases htx_28 : tx uN with
        | none =>
          refine wd_topE (y := 1) rfl ?_
          refine lv_istore (lv' := [(4, .int 1), (0, .ref m), (1, .int (nI tN)), (2, .int (nI uN)), (3, .int way)]) hx hb dX3_turnInto_31 hl (by decide) rfl (fun ls hl => ?_)
          refine lv_iload hx hb dX3_turnInto_33 (lv_at hl 0 rfl) ?_
          refine lv_if_eq (tgt := 45) hx hb dX3_turnInto_35 (by decide) (fun c_35 => ?_) (fun c_35 => ?_)
          ·
            exact absurd c_35 (by decide)
          ·
            refine lv_aload_n hx hb dX3_turnInto_38 rfl (lv_at hl 1 rfl) ?_
            refine lv_iload hx hb dX3_turnInto_39 (lv_at hl 0 rfl) ?_
            refine wd_callVi (As := [.int 1]) (rest := []) (c2 := 0) (s2 := 0) ⟨hx, hb, hml, hown, hts⟩ (k_X3_no l D cI cT w H.size m A (fun t => oI (tx t)) (kI kp) (fun r => (rs r).1) (fun r => nI (rs r).2.length) fI kp.length cd pl XD XP XU XO XB 1 hR) (cwV 1 hts gX3_turnInto_X3_no rfl rfl rfl (by decide +kernel) ⟨Nat.le_of_ble_eq_true rfl, Nat.le_of_ble_eq_true rfl⟩) gK_ok hK hW (wd_recv (ci := 3) hK.1 hW rfl hR.1) hS hA rfl hl.1 rfl (Nat.le_of_ble_eq_true rfl) dX3_turnInto_41 ⟨Nat.le_of_ble_eq_true rfl, Nat.le_of_ble_eq_true rfl⟩ rfl rfl (fun r_41 w_41 H locs hp_41 hW hz hS => ?_)
            obtain ⟨q_r, hR⟩ := hp_41
            subst r_41
            refine wd_iret hx hb hr hlocks hW hS dX3_turnInto_44 ?_
            have e9 : s_turnInto (cd, pl, df, tx, kp, rs) (nI tN) (nI uN) way = (0, 1, pl, df, tx, kp, rs) := by simp only [s_turnInto, if_neg (not_or.mpr ⟨c_4, (not_or.mpr ⟨c_11, c_20⟩)⟩), s_w1, s_no, s_mk, hcl_t, hcl_u, htx_28]
            show _ = (s_turnInto (cd, pl, df, tx, kp, rs) (nI tN) (nI uN) way).1 ∧ InvR cI m (s_turnInto (cd, pl, df, tx, kp, rs) (nI tN) (nI uN) way).2 _
            rw [e9]
            exact ⟨rfl, A, fI, XD, XP, XU, XO, XB, hR, hdf, hit⟩
        | some r_28 =>
          have hr24_28 := hlv _ _ htx_28
          have hok_28 := hok _ _ htx_28
          by_cases hkd : (rs r_28).1 = 2
          ·
            refine wd_topE (y := 2) (by show (if (rs r_28).1 = 2 then _ else _) = _; rw [if_pos hkd]) ?_
            refine lv_istore (lv' := [(4, .int 2), (0, .ref m), (1, .int (nI tN)), (2, .int (nI uN)), (3, .int way)]) hx hb dX3_turnInto_31 hl (by decide) rfl (fun ls hl => ?_)
            refine lv_iload hx hb dX3_turnInto_33 (lv_at hl 0 rfl) ?_
            refine lv_if_eq (tgt := 45) hx hb dX3_turnInto_35 (by decide) (fun c_35 => ?_) (fun c_35 => ?_)
            ·
              exact absurd c_35 (by decide)
            ·
              refine lv_aload_n hx hb dX3_turnInto_38 rfl (lv_at hl 1 rfl) ?_
              refine lv_iload hx hb dX3_turnInto_39 (lv_at hl 0 rfl) ?_
              refine wd_callVi (As := [.int 2]) (rest := []) (c2 := 0) (s2 := 0) ⟨hx, hb, hml, hown, hts⟩ (k_X3_no l D cI cT w H.size m A (fun t => oI (tx t)) (kI kp) (fun r => (rs r).1) (fun r => nI (rs r).2.length) fI kp.length cd pl XD XP XU XO XB 2 hR) (cwV 1 hts gX3_turnInto_X3_no rfl rfl rfl (by decide +kernel) ⟨Nat.le_of_ble_eq_true rfl, Nat.le_of_ble_eq_true rfl⟩) gK_ok hK hW (wd_recv (ci := 3) hK.1 hW rfl hR.1) hS hA rfl hl.1 rfl (Nat.le_of_ble_eq_true rfl) dX3_turnInto_41 ⟨Nat.le_of_ble_eq_true rfl, Nat.le_of_ble_eq_true rfl⟩ rfl rfl (fun r_41 w_41 H locs hp_41 hW hz hS => ?_)
              obtain ⟨q_r, hR⟩ := hp_41
              subst r_41
              refine wd_iret hx hb hr hlocks hW hS dX3_turnInto_44 ?_
              have e9 : s_turnInto (cd, pl, df, tx, kp, rs) (nI tN) (nI uN) way = (0, 2, pl, df, tx, kp, rs) := by simp only [s_turnInto, if_neg (not_or.mpr ⟨c_4, (not_or.mpr ⟨c_11, c_20⟩)⟩), s_w1, s_no, s_mk, if_pos hkd, hcl_t, hcl_u, htx_28]
              show _ = (s_turnInto (cd, pl, df, tx, kp, rs) (nI tN) (nI uN) way).1 ∧ InvR cI m (s_turnInto (cd, pl, df, tx, kp, rs) (nI tN) (nI uN) way).2 _
              rw [e9]
              exact ⟨rfl, A, fI, XD, XP, XU, XO, XB, hR, hdf, hit⟩
          ·
            refine wd_topE (y := 0) (by show (if (rs r_28).1 = 2 then _ else _) = _; rw [if_neg hkd]) ?_
            have hl60 := hok_28.len2 hkd
            refine lv_istore (lv' := [(4, .int 0), (0, .ref m), (1, .int (nI tN)), (2, .int (nI uN)), (3, .int way)]) hx hb dX3_turnInto_31 hl (by decide) rfl (fun ls hl => ?_)
            refine lv_iload hx hb dX3_turnInto_33 (lv_at hl 0 rfl) ?_
            refine lv_if_eq (tgt := 45) hx hb dX3_turnInto_35 (by decide) (fun c_35 => ?_) (fun c_35 => ?_)
            ·
              refine lv_aload_n hx hb dX3_turnInto_45 rfl (lv_at hl 1 rfl) ?_
              refine lv_iload_n hx hb dX3_turnInto_46 rfl (lv_at hl 3 rfl) ?_
              refine wd_callVv (As := [.int (nI uN)]) (rest := []) (c2 := 0) (s2 := 0) ⟨hx, hb, hml, hown, hts⟩ (k_X3_take l D cI cT w H.size m A (kI kp) fI kp.length cd pl XD XP XU XO XB tx rs uN r_28 hR (by omega) htx_28 hr24_28 hlv hit (hok _ _ htx_28) hkd) (cwV 1 hts gX3_turnInto_X3_take rfl rfl rfl (by decide +kernel) ⟨Nat.le_of_ble_eq_true rfl, Nat.le_of_ble_eq_true rfl⟩) gK_ok hK hW (wd_recv (ci := 3) hK.1 hW rfl hR.1) hS hA rfl hl.1 rfl (Nat.le_of_ble_eq_true rfl) dX3_turnInto_47 ⟨Nat.le_of_ble_eq_true rfl, Nat.le_of_ble_eq_true rfl⟩ rfl rfl (fun w_47 H locs hp_47 hW hz hS => ?_)
              obtain ⟨Y_47, Z_47, hY_47, hZ_47, hR⟩ := hp_47
              have hYc_47 := rl_cnt hY_47
              have hZc_47 := rl_cnt hZ_47
              have hYl_47 := u_pl_len (rs r_28).1 (rs r_28).2
              have hZl_47 := u_ul_len (rs r_28).1 (rs r_28).2
              refine lv_iload_n hx hb dX3_turnInto_50 rfl (lv_at hl 4 rfl) ?_
              refine lv_iconst (v := 1) hx hb dX3_turnInto_51 (by decide) ?_
              refine lv_icmp_ne (tgt := 70) hx hb dX3_turnInto_52 (by decide) (fun c_52 => ?_) (fun c_52 => ?_)
              ·
                have hw0 := way0 c_20 c_52
                subst hw0
                refine lv_aload_n hx hb dX3_turnInto_70 rfl (lv_at hl 1 rfl) ?_
                refine wd_get (ci := 3) (v := .int (nI Z_47.2)) (C := RX3) (T := TX3) (N := 18) hx hb hts (by decide +kernel) hown hK.1 hW hR.1 rfl 13 (by decide) (hts (.fieldLink RX3 71 "CharRowsModel" "unitMany" "I") (by decide +kernel)) (fun _ h9 => h9) rfl dX3_turnInto_71 ?_
                refine lv_bipush (v := 60) hx hb dX3_turnInto_74 (by decide) ?_
                refine lv_icmp_le (tgt := 88) hx hb dX3_turnInto_76 (by decide) (fun c_76 => ?_) (fun c_76 => ?_)
                ·
                  have c_76 : Z_47.2 ≤ 60 := (nI_leI (by omega) (by omega)).mp (show (nI Z_47.2 ≤ nI 60) from c_76)
                  refine lv_aload_n hx hb dX3_turnInto_88 rfl (lv_at hl 1 rfl) ?_
                  refine lv_iload_n hx hb dX3_turnInto_89 rfl (lv_at hl 2 rfl) ?_
                  refine lv_iconst (v := 0) hx hb dX3_turnInto_90 (by decide) ?_
                  refine lv_aload_n hx hb dX3_turnInto_91 rfl (lv_at hl 1 rfl) ?_
                  refine wd_get (ci := 3) (v := .ref (A 7)) (C := RX3) (T := TX3) (N := 18) hx hb hts (by decide +kernel) hown hK.1 hW hR.1 rfl 12 (by decide) (hts (.fieldLink RX3 35 "CharRowsModel" "units" "[I") (by decide +kernel)) (fun _ h9 => h9) rfl dX3_turnInto_92 ?_
                  refine lv_aload_n hx hb dX3_turnInto_95 rfl (lv_at hl 1 rfl) ?_
                  refine wd_get (ci := 3) (v := .int (nI Z_47.2)) (C := RX3) (T := TX3) (N := 18) hx hb hts (by decide +kernel) hown hK.1 hW hR.1 rfl 13 (by decide) (hts (.fieldLink RX3 71 "CharRowsModel" "unitMany" "I") (by decide +kernel)) (fun _ h9 => h9) rfl dX3_turnInto_96 ?_
                  refine wd_callVi (As := [.int (nI tN), .int 0, .ref (A 7), .int (nI Z_47.2)]) (rest := []) (c2 := 0) (s2 := 0) ⟨hx, hb, hml, hown, hts⟩ (k_X3_become7 l D cI cT w_47 H.size m A fI cd pl XD Y_47 Z_47 XO XB tx kp rs tN 0 Z_47.2 hR (by omega) h10 hkp hlv hk24 hit (by omega)) (cwV 4 hts gX3_turnInto_X3_become rfl rfl rfl (by decide +kernel) ⟨Nat.le_of_ble_eq_true rfl, Nat.le_of_ble_eq_true rfl⟩) gK_ok hK hW (wd_recv (ci := 3) hK.1 hW rfl hR.1) hS hA rfl hl.1 rfl (Nat.le_of_ble_eq_true rfl) dX3_turnInto_99 ⟨Nat.le_of_ble_eq_true rfl, Nat.le_of_ble_eq_true rfl⟩ rfl rfl (fun r_99 w_99 H locs hp_99 hW hz hS => ?_)
                  obtain ⟨q_r, f_99, hit_99, hR⟩ := hp_99
                  subst r_99
                  refine wd_iret hx hb hr hlocks hW hS dX3_turnInto_102 ?_
                  have e9 : s_turnInto (cd, pl, df, tx, kp, rs) (nI tN) (nI uN) 0 = (nI Z_47.2, 0, pl, df, (va_up tx tN (some (u_free tx kp))), kp, (va_up rs (u_free tx kp) (0, (rl (Z_47.1, Z_47.2))))) := by simp only [s_turnInto, if_neg (not_or.mpr ⟨c_4, (not_or.mpr ⟨c_11, c_20⟩)⟩), s_w1, s_no, s_mk, if_neg hkd, if_neg (show ¬ (0 : Int32) = 1 by decide), if_false, if_neg (show ¬ 60 < (u_ul (rs r_28).1 (rs r_28).2).length by omega), hcl_t, hcl_u, htx_28]; rw [show u_ul (rs r_28).1 (rs r_28).2 = (rl (Z_47.1, Z_47.2)) from by rw [rl_eta, hZ_47], rl_len]; first | done | rfl
                  show _ = (s_turnInto (cd, pl, df, tx, kp, rs) (nI tN) (nI uN) 0).1 ∧ InvR cI m (s_turnInto (cd, pl, df, tx, kp, rs) (nI tN) (nI uN) 0).2 _
                  rw [e9]
                  exact ⟨rfl, A, f_99, XD, Y_47, Z_47, XO, XB, hR, hdf, hit_99⟩
                ·
                  have c_76 : ¬ (Z_47.2 ≤ 60) := fun q9 => absurd ((nI_leI (by omega) (by omega)).mpr q9) (show ¬ (nI Z_47.2 ≤ nI 60) from c_76)
                  refine lv_aload_n hx hb dX3_turnInto_79 rfl (lv_at hl 1 rfl) ?_
                  refine lv_bipush (v := 6) hx hb dX3_turnInto_80 (by decide) ?_
                  refine wd_callVi (As := [.int 6]) (rest := []) (c2 := 0) (s2 := 0) ⟨hx, hb, hml, hown, hts⟩ (k_X3_no l D cI cT w_47 H.size m A (fun t => oI (tx t)) (kI kp) (fun r => (rs r).1) (fun r => nI (rs r).2.length) fI kp.length cd pl XD Y_47 Z_47 XO XB 6 hR) (cwV 1 hts gX3_turnInto_X3_no rfl rfl rfl (by decide +kernel) ⟨Nat.le_of_ble_eq_true rfl, Nat.le_of_ble_eq_true rfl⟩) gK_ok hK hW (wd_recv (ci := 3) hK.1 hW rfl hR.1) hS hA rfl hl.1 rfl (Nat.le_of_ble_eq_true rfl) dX3_turnInto_82 ⟨Nat.le_of_ble_eq_true rfl, Nat.le_of_ble_eq_true rfl⟩ rfl rfl (fun r_82 w_82 H locs hp_82 hW hz hS => ?_)
                  obtain ⟨q_r, hR⟩ := hp_82
                  subst r_82
                  refine lv_goto (tgt := 102) hx hb dX3_turnInto_85 (by decide) ?_
                  refine wd_iret hx hb hr hlocks hW hS dX3_turnInto_102 ?_
                  have e9 : s_turnInto (cd, pl, df, tx, kp, rs) (nI tN) (nI uN) 0 = (0, 6, pl, df, tx, kp, rs) := by simp only [s_turnInto, if_neg (not_or.mpr ⟨c_4, (not_or.mpr ⟨c_11, c_20⟩)⟩), s_w1, s_no, s_mk, if_neg hkd, if_neg (show ¬ (0 : Int32) = 1 by decide), if_false, if_pos (show 60 < (u_ul (rs r_28).1 (rs r_28).2).length by omega), hcl_t, hcl_u, htx_28]
                  show _ = (s_turnInto (cd, pl, df, tx, kp, rs) (nI tN) (nI uN) 0).1 ∧ InvR cI m (s_turnInto (cd, pl, df, tx, kp, rs) (nI tN) (nI uN) 0).2 _
                  rw [e9]
                  exact ⟨rfl, A, fI, XD, Y_47, Z_47, XO, XB, hR, hdf, hit⟩
              ·
                subst c_52
                refine lv_aload_n hx hb dX3_turnInto_55 rfl (lv_at hl 1 rfl) ?_
                refine lv_iload_n hx hb dX3_turnInto_56 rfl (lv_at hl 2 rfl) ?_
                refine lv_iconst (v := 1) hx hb dX3_turnInto_57 (by decide) ?_
                refine lv_aload_n hx hb dX3_turnInto_58 rfl (lv_at hl 1 rfl) ?_
                refine wd_get (ci := 3) (v := .ref (A 6)) (C := RX3) (T := TX3) (N := 18) hx hb hts (by decide +kernel) hown hK.1 hW hR.1 rfl 10 (by decide) (hts (.fieldLink RX3 32 "CharRowsModel" "points" "[I") (by decide +kernel)) (fun _ h9 => h9) rfl dX3_turnInto_59 ?_
                refine lv_aload_n hx hb dX3_turnInto_62 rfl (lv_at hl 1 rfl) ?_
                refine wd_get (ci := 3) (v := .int (nI Y_47.2)) (C := RX3) (T := TX3) (N := 18) hx hb hts (by decide +kernel) hown hK.1 hW hR.1 rfl 11 (by decide) (hts (.fieldLink RX3 74 "CharRowsModel" "pointMany" "I") (by decide +kernel)) (fun _ h9 => h9) rfl dX3_turnInto_63 ?_
                refine wd_callVi (As := [.int (nI tN), .int 1, .ref (A 6), .int (nI Y_47.2)]) (rest := []) (c2 := 0) (s2 := 0) ⟨hx, hb, hml, hown, hts⟩ (k_X3_become6 l D cI cT w_47 H.size m A fI cd pl XD Y_47 Z_47 XO XB tx kp rs tN 1 Y_47.2 hR (by omega) h10 hkp hlv hk24 hit (by omega)) (cwV 4 hts gX3_turnInto_X3_become rfl rfl rfl (by decide +kernel) ⟨Nat.le_of_ble_eq_true rfl, Nat.le_of_ble_eq_true rfl⟩) gK_ok hK hW (wd_recv (ci := 3) hK.1 hW rfl hR.1) hS hA rfl hl.1 rfl (Nat.le_of_ble_eq_true rfl) dX3_turnInto_66 ⟨Nat.le_of_ble_eq_true rfl, Nat.le_of_ble_eq_true rfl⟩ rfl rfl (fun r_66 w_66 H locs hp_66 hW hz hS => ?_)
                obtain ⟨q_r, f_66, hit_66, hR⟩ := hp_66
                subst r_66
                refine wd_iret hx hb hr hlocks hW hS dX3_turnInto_69 ?_
                have e9 : s_turnInto (cd, pl, df, tx, kp, rs) (nI tN) (nI uN) 1 = (nI Y_47.2, 0, pl, df, (va_up tx tN (some (u_free tx kp))), kp, (va_up rs (u_free tx kp) (1, (rl (Y_47.1, Y_47.2))))) := by simp only [s_turnInto, if_neg (not_or.mpr ⟨c_4, (not_or.mpr ⟨c_11, c_20⟩)⟩), s_w1, s_no, s_mk, if_neg hkd, if_true, if_neg (show ¬ 60 < (u_pl (rs r_28).1 (rs r_28).2).length by omega), hcl_t, hcl_u, htx_28]; rw [show u_pl (rs r_28).1 (rs r_28).2 = (rl (Y_47.1, Y_47.2)) from by rw [rl_eta, hY_47], rl_len]; first | done | rfl
                show _ = (s_turnInto (cd, pl, df, tx, kp, rs) (nI tN) (nI uN) 1).1 ∧ InvR cI m (s_turnInto (cd, pl, df, tx, kp, rs) (nI tN) (nI uN) 1).2 _
                rw [e9]
                exact ⟨rfl, A, f_66, XD, Y_47, Z_47, XO, XB, hR, hdf, hit_66⟩
            ·
              exact absurd rfl c_35
      ·
        have c_20 := w_no (w_way way) (j_b0 c_20)
        refine lv_ldc (v := (-2000000001)) hx hb hown (hts (.constant RX3 107 (-2000000001)) (by decide +kernel)) dX3_turnInto_23 ?_
        refine wd_iret hx hb hr hlocks hW hS dX3_turnInto_25 ?_
        have e9 : s_turnInto (cd, pl, df, tx, kp, rs) (nI tN) (nI uN) way = ((-2000000001), cd, pl, df, tx, kp, rs) := by simp only [s_turnInto, if_pos (Or.inr (Or.inr c_20)), s_w1, s_no, s_mk, hcl_t, hcl_u]
        show _ = (s_turnInto (cd, pl, df, tx, kp, rs) (nI tN) (nI uN) way).1 ∧ InvR cI m (s_turnInto (cd, pl, df, tx, kp, rs) (nI tN) (nI uN) way).2 _
        rw [e9]
        exact ⟨rfl, A, fI, XD, XP, XU, XO, XB, hR, hdf, hit⟩
set_option maxHeartbeats 4000000 in
set_option maxRecDepth 100000 in
theorem k_X3_change (l : Launch) (D : va_G) (cI cT : ClassId) (w : Wd) (sz : Nat) (m : Nat) (cd : Int32) (pl : Int32) (df : List Int32) (tx : Nat → Option Nat) (kp : List Nat) (rs : Rws) (t : Int32) (u : Int32) (way : Int32) (hwf : WF (cd, pl, df, tx, kp, rs)) (hI : InvR cI m (cd, pl, df, tx, kp, rs) w) : wd_Mi l D vwCl (gK D cI cT) yX3_change wsX3_change (wd_rm 3 0 0) [.ref m, .int t, .int u, .int way] w sz (fun r w' => r = (s_change (cd, pl, df, tx, kp, rs) t u way).1 ∧ InvR cI m (s_change (cd, pl, df, tx, kp, rs) t u way).2 w') := by
  refine wd_met (cc := cX3_change) (maxL := 7) (ret := (some .int)) (by decide) rfl (Nat.le_of_ble_eq_true rfl) ?_
  intro pg ev sg mi bl mt cde ls C0 hsz hK hW hl
  obtain ⟨hx, hb, hr, hml, hown, hts, hlocks, hnm⟩ := C0
  subst hsz
  have hown : sg.vm.findClass RX3 = some mi.cls := hown
  have hS : va_S (wd_A w sg.heap.size) sg.heap sg.heap [] := va_S.rf
  have hA : ∀ q, sg.heap.size ≤ q → wd_A w sg.heap.size q := fun q h => Or.inr h
  have hl : lv_has ls 7 [(0, .ref m), (1, .int t), (2, .int u), (3, .int way)] := hl
  obtain ⟨A, fI, XD, XP, XU, XO, XB, hR, hdf, hit⟩ := hI
  dsimp only at hR hdf hit
  have h10 : ∀ t, 10 ≤ t → tx t = none := hwf.2.1
  have hkp : kp.length ≤ 12 := hwf.2.2.1
  have hlv : ∀ t r, tx t = some r → r < 24 := fun t r h => (hwf.2.2.2.1 r (Or.inl ⟨t, h⟩)).1
  have hok : ∀ t r, tx t = some r → rOK (rs r) := fun t r h => (hwf.2.2.2.1 r (Or.inl ⟨t, h⟩)).2
  have hk24 : ∀ r ∈ kp, r < 24 := fun r h => (hwf.2.2.2.1 r (Or.inr h)).1
  have hdl : df.length = XD.2 := by rw [← hdf, rl_len]
  have hd60 : df.length ≤ 60 := hwf.1.1
  refine lv_iload_n hx hb dX3_change_0 rfl (lv_at hl 1 rfl) ?_
  refine wd_callSi (As := [.int t]) (rest := []) (c2 := 0) (s2 := 0) ⟨hx, hb, hml, hown, hts⟩ (k_X3_isText l D cI cT w sg.heap.size t ) (va_cwS 1 hts gX3_change_X3_isText rfl rfl rfl (by decide +kernel) ⟨Nat.le_of_ble_eq_true rfl, Nat.le_of_ble_eq_true rfl⟩) gK_ok hK hW hS hA rfl hl.1 rfl (Nat.le_of_ble_eq_true rfl) dX3_change_1 ⟨Nat.le_of_ble_eq_true rfl, Nat.le_of_ble_eq_true rfl⟩ rfl rfl (fun r_1 w_1 H locs hp_1 hW hz hS => ?_)
  obtain ⟨q_r, q_w⟩ := hp_1
  subst r_1
  subst w_1
  refine lv_if_eq (tgt := 23) hx hb dX3_change_4 (by decide) (fun c_4 => ?_) (fun c_4 => ?_)
  ·
    have c_4 := nt_of (j_b0 c_4)
    refine lv_ldc (v := (-2000000001)) hx hb hown (hts (.constant RX3 107 (-2000000001)) (by decide +kernel)) dX3_change_23 ?_
    refine wd_iret hx hb hr hlocks hW hS dX3_change_25 ?_
    have e9 : s_change (cd, pl, df, tx, kp, rs) t u way = ((-2000000001), cd, pl, df, tx, kp, rs) := by simp only [s_change, if_pos (Or.inl c_4), s_w1, s_no, s_mk]
    show _ = (s_change (cd, pl, df, tx, kp, rs) t u way).1 ∧ InvR cI m (s_change (cd, pl, df, tx, kp, rs) t u way).2 _
    rw [e9]
    exact ⟨rfl, A, fI, XD, XP, XU, XO, XB, hR, hdf, hit⟩
  ·
    have c_4 := j_bn c_4
    obtain ⟨tN, htN, htE⟩ := nt_spec c_4
    subst htE
    have hcl_t : (nI tN).toNatClampNeg = tN := nI_clamp (by omega)
    refine lv_iload_n hx hb dX3_change_7 rfl (lv_at hl 2 rfl) ?_
    refine wd_callSi (As := [.int u]) (rest := []) (c2 := 0) (s2 := 0) ⟨hx, hb, hml, hown, hts⟩ (k_X3_isText l D cI cT w H.size u ) (va_cwS 1 hts gX3_change_X3_isText rfl rfl rfl (by decide +kernel) ⟨Nat.le_of_ble_eq_true rfl, Nat.le_of_ble_eq_true rfl⟩) gK_ok hK hW hS hA rfl hl.1 rfl (Nat.le_of_ble_eq_true rfl) dX3_change_8 ⟨Nat.le_of_ble_eq_true rfl, Nat.le_of_ble_eq_true rfl⟩ rfl rfl (fun r_8 w_8 H locs hp_8 hW hz hS => ?_)
    obtain ⟨q_r, q_w⟩ := hp_8
    subst r_8
    subst w_8
    refine lv_if_eq (tgt := 23) hx hb dX3_change_11 (by decide) (fun c_11 => ?_) (fun c_11 => ?_)
    ·
      have c_11 := nt_of (j_b0 c_11)
      refine lv_ldc (v := (-2000000001)) hx hb hown (hts (.constant RX3 107 (-2000000001)) (by decide +kernel)) dX3_change_23 ?_
      refine wd_iret hx hb hr hlocks hW hS dX3_change_25 ?_
      have e9 : s_change (cd, pl, df, tx, kp, rs) (nI tN) u way = ((-2000000001), cd, pl, df, tx, kp, rs) := by simp only [s_change, if_pos (Or.inr (Or.inl c_11)), s_w1, s_no, s_mk, hcl_t]
      show _ = (s_change (cd, pl, df, tx, kp, rs) (nI tN) u way).1 ∧ InvR cI m (s_change (cd, pl, df, tx, kp, rs) (nI tN) u way).2 _
      rw [e9]
      exact ⟨rfl, A, fI, XD, XP, XU, XO, XB, hR, hdf, hit⟩
    ·
      have c_11 := j_bn c_11
      obtain ⟨uN, huN, huE⟩ := nt_spec c_11
      subst huE
      have hcl_u : (nI uN).toNatClampNeg = uN := nI_clamp (by omega)
      refine lv_iload_n hx hb dX3_change_14 rfl (lv_at hl 3 rfl) ?_
      refine lv_iconst (v := 0) hx hb dX3_change_15 (by decide) ?_
      refine lv_iconst (v := 1) hx hb dX3_change_16 (by decide) ?_
      refine wd_callSi (As := [.int way, .int 0, .int 1]) (rest := []) (c2 := 0) (s2 := 0) ⟨hx, hb, hml, hown, hts⟩ (k_X3_within l D cI cT w H.size way 0 1 ) (va_cwS 3 hts gX3_change_X3_within rfl rfl rfl (by decide +kernel) ⟨Nat.le_of_ble_eq_true rfl, Nat.le_of_ble_eq_true rfl⟩) gK_ok hK hW hS hA rfl hl.1 rfl (Nat.le_of_ble_eq_true rfl) dX3_change_17 ⟨Nat.le_of_ble_eq_true rfl, Nat.le_of_ble_eq_true rfl⟩ rfl rfl (fun r_17 w_17 H locs hp_17 hW hz hS => ?_)
      obtain ⟨q_r, q_w⟩ := hp_17
      subst r_17
      subst w_17
      refine lv_if_ne (tgt := 26) hx hb dX3_change_20 (by decide) (fun c_20 => ?_) (fun c_20 => ?_)
      ·
        have c_20 := (w_way way).mp (j_bn c_20)
        refine lv_aload_n hx hb dX3_change_26 rfl (lv_at hl 0 rfl) ?_
        refine lv_iload_n hx hb dX3_change_27 rfl (lv_at hl 2 rfl) ?_
        refine wd_callVi (As := [.int (nI uN)]) (rest := []) (c2 := 0) (s2 := 0) ⟨hx, hb, hml, hown, hts⟩ (k_X3_wantsPoints l D cI cT w H.size m A (kI kp) (fun r => nI (rs r).2.length) fI kp.length cd pl XD XP XU XO XB tx rs uN hR (by omega) hlv hok) (cwV 1 hts gX3_change_X3_wantsPoints rfl rfl rfl (by decide +kernel) ⟨Nat.le_of_ble_eq_true rfl, Nat.le_of_ble_eq_true rfl⟩) gK_ok hK hW (wd_recv (ci := 3) hK.1 hW rfl hR.1) hS hA rfl hl.1 rfl (Nat.le_of_ble_eq_true rfl) dX3_change_28 ⟨Nat.le_of_ble_eq_true rfl, Nat.le_of_ble_eq_true rfl⟩ rfl rfl (fun r_28 w_28 H locs hp_28 hW hz hS => ?_)
        obtain ⟨q_r, q_w⟩ := hp_28
        subst r_28
        subst w_28
        cases htx_28 : tx uN with
        | none =>
          refine wd_topE (y := 1) rfl ?_
          refine lv_istore (lv' := [(4, .int 1), (0, .ref m), (1, .int (nI tN)), (2, .int (nI uN)), (3, .int way)]) hx hb dX3_change_31 hl (by decide) rfl (fun ls hl => ?_)
          refine lv_iload hx hb dX3_change_33 (lv_at hl 0 rfl) ?_
          refine lv_if_eq (tgt := 45) hx hb dX3_change_35 (by decide) (fun c_35 => ?_) (fun c_35 => ?_)
          ·
            exact absurd c_35 (by decide)
          ·
            refine lv_aload_n hx hb dX3_change_38 rfl (lv_at hl 1 rfl) ?_
            refine lv_iload hx hb dX3_change_39 (lv_at hl 0 rfl) ?_
            refine wd_callVi (As := [.int 1]) (rest := []) (c2 := 0) (s2 := 0) ⟨hx, hb, hml, hown, hts⟩ (k_X3_no l D cI cT w H.size m A (fun t => oI (tx t)) (kI kp) (fun r => (rs r).1) (fun r => nI (rs r).2.length) fI kp.length cd pl XD XP XU XO XB 1 hR) (cwV 1 hts gX3_change_X3_no rfl rfl rfl (by decide +kernel) ⟨Nat.le_of_ble_eq_true rfl, Nat.le_of_ble_eq_true rfl⟩) gK_ok hK hW (wd_recv (ci := 3) hK.1 hW rfl hR.1) hS hA rfl hl.1 rfl (Nat.le_of_ble_eq_true rfl) dX3_change_41 ⟨Nat.le_of_ble_eq_true rfl, Nat.le_of_ble_eq_true rfl⟩ rfl rfl (fun r_41 w_41 H locs hp_41 hW hz hS => ?_)
            obtain ⟨q_r, hR⟩ := hp_41
            subst r_41
            refine wd_iret hx hb hr hlocks hW hS dX3_change_44 ?_
            have e9 : s_change (cd, pl, df, tx, kp, rs) (nI tN) (nI uN) way = (0, 1, pl, df, tx, kp, rs) := by simp only [s_change, if_neg (not_or.mpr ⟨c_4, (not_or.mpr ⟨c_11, c_20⟩)⟩), s_w1, s_no, s_mk, hcl_t, hcl_u, htx_28]
            show _ = (s_change (cd, pl, df, tx, kp, rs) (nI tN) (nI uN) way).1 ∧ InvR cI m (s_change (cd, pl, df, tx, kp, rs) (nI tN) (nI uN) way).2 _
            rw [e9]
            exact ⟨rfl, A, fI, XD, XP, XU, XO, XB, hR, hdf, hit⟩
        | some r_28 =>
          have hr24_28 := hlv _ _ htx_28
          have hok_28 := hok _ _ htx_28
          by_cases hkd : (rs r_28).1 = 2
          ·
            refine wd_topE (y := 2) (by show (if (rs r_28).1 = 2 then _ else _) = _; rw [if_pos hkd]) ?_
            refine lv_istore (lv' := [(4, .int 2), (0, .ref m), (1, .int (nI tN)), (2, .int (nI uN)), (3, .int way)]) hx hb dX3_change_31 hl (by decide) rfl (fun ls hl => ?_)
            refine lv_iload hx hb dX3_change_33 (lv_at hl 0 rfl) ?_
            refine lv_if_eq (tgt := 45) hx hb dX3_change_35 (by decide) (fun c_35 => ?_) (fun c_35 => ?_)
            ·
              exact absurd c_35 (by decide)
            ·
              refine lv_aload_n hx hb dX3_change_38 rfl (lv_at hl 1 rfl) ?_
              refine lv_iload hx hb dX3_change_39 (lv_at hl 0 rfl) ?_
              refine wd_callVi (As := [.int 2]) (rest := []) (c2 := 0) (s2 := 0) ⟨hx, hb, hml, hown, hts⟩ (k_X3_no l D cI cT w H.size m A (fun t => oI (tx t)) (kI kp) (fun r => (rs r).1) (fun r => nI (rs r).2.length) fI kp.length cd pl XD XP XU XO XB 2 hR) (cwV 1 hts gX3_change_X3_no rfl rfl rfl (by decide +kernel) ⟨Nat.le_of_ble_eq_true rfl, Nat.le_of_ble_eq_true rfl⟩) gK_ok hK hW (wd_recv (ci := 3) hK.1 hW rfl hR.1) hS hA rfl hl.1 rfl (Nat.le_of_ble_eq_true rfl) dX3_change_41 ⟨Nat.le_of_ble_eq_true rfl, Nat.le_of_ble_eq_true rfl⟩ rfl rfl (fun r_41 w_41 H locs hp_41 hW hz hS => ?_)
              obtain ⟨q_r, hR⟩ := hp_41
              subst r_41
              refine wd_iret hx hb hr hlocks hW hS dX3_change_44 ?_
              have e9 : s_change (cd, pl, df, tx, kp, rs) (nI tN) (nI uN) way = (0, 2, pl, df, tx, kp, rs) := by simp only [s_change, if_neg (not_or.mpr ⟨c_4, (not_or.mpr ⟨c_11, c_20⟩)⟩), s_w1, s_no, s_mk, if_pos hkd, hcl_t, hcl_u, htx_28]
              show _ = (s_change (cd, pl, df, tx, kp, rs) (nI tN) (nI uN) way).1 ∧ InvR cI m (s_change (cd, pl, df, tx, kp, rs) (nI tN) (nI uN) way).2 _
              rw [e9]
              exact ⟨rfl, A, fI, XD, XP, XU, XO, XB, hR, hdf, hit⟩
          ·
            refine wd_topE (y := 0) (by show (if (rs r_28).1 = 2 then _ else _) = _; rw [if_neg hkd]) ?_
            have hl60 := hok_28.len2 hkd
            refine lv_istore (lv' := [(4, .int 0), (0, .ref m), (1, .int (nI tN)), (2, .int (nI uN)), (3, .int way)]) hx hb dX3_change_31 hl (by decide) rfl (fun ls hl => ?_)
            refine lv_iload hx hb dX3_change_33 (lv_at hl 0 rfl) ?_
            refine lv_if_eq (tgt := 45) hx hb dX3_change_35 (by decide) (fun c_35 => ?_) (fun c_35 => ?_)
            ·
              refine lv_aload_n hx hb dX3_change_45 rfl (lv_at hl 1 rfl) ?_
              refine lv_iload_n hx hb dX3_change_46 rfl (lv_at hl 3 rfl) ?_
              refine wd_callVi (As := [.int (nI uN)]) (rest := []) (c2 := 0) (s2 := 0) ⟨hx, hb, hml, hown, hts⟩ (k_X3_manyOf l D cI cT w H.size m A (kI kp) (fun r => (rs r).1) fI kp.length cd pl XD XP XU XO XB tx rs uN r_28 hR (by omega) htx_28 hr24_28) (cwV 1 hts gX3_change_X3_manyOf rfl rfl rfl (by decide +kernel) ⟨Nat.le_of_ble_eq_true rfl, Nat.le_of_ble_eq_true rfl⟩) gK_ok hK hW (wd_recv (ci := 3) hK.1 hW rfl hR.1) hS hA rfl hl.1 rfl (Nat.le_of_ble_eq_true rfl) dX3_change_47 ⟨Nat.le_of_ble_eq_true rfl, Nat.le_of_ble_eq_true rfl⟩ rfl rfl (fun r_47 w_47 H locs hp_47 hW hz hS => ?_)
              obtain ⟨q_r, q_w⟩ := hp_47
              subst r_47
              subst w_47
              refine lv_istore (lv' := [(5, .int (nI ((rs r_28).2.length))), (4, .int 0), (0, .ref m), (1, .int (nI tN)), (2, .int (nI uN)), (3, .int way)]) hx hb dX3_change_50 hl (by decide) rfl (fun ls hl => ?_)
              refine lv_iconst (v := 0) hx hb dX3_change_52 (by decide) ?_
              refine lv_istore (lv' := [(6, .int 0), (5, .int (nI ((rs r_28).2.length))), (4, .int 0), (0, .ref m), (1, .int (nI tN)), (2, .int (nI uN)), (3, .int way)]) hx hb dX3_change_53 hl (by decide) rfl (fun ls hl => ?_)
              refine wd_loop1 (fun (k : Nat) (H : Heap) (locs : List Loc) (ls : Array Slot) => (k ≤ (rs r_28).2.length) ∧ (∃ w', wd_P D vwCl (wd_A w sg.heap.size) w' H ∧ rW cI m A (fun t => oI (tx t)) (kI kp) (fun r => (rs r).1) (fun r => nI (rs r).2.length) fI kp.length cd pl XD XP XU (itN (fun j f => upd f j ((fun x => if way = 0 then j_gr x else j_le x) (lf (rs r_28).2 j))) k XO.1, XO.2) XB w') ∧ va_S (wd_A w sg.heap.size) sg.heap H locs ∧ lv_has ls 7 [(0, .ref m), (1, .int (nI tN)), (2, .int (nI uN)), (3, .int way), (5, .int (nI ((rs r_28).2.length))), (6, .int (nI k))]) (fun (k : Nat) => (rs r_28).2.length - k) 0 ⟨(by omega), ⟨_, hW, hR⟩, hS, (lv_sub hl [3, 4, 5, 6, 1, 0] rfl)⟩ (fun k H locs ls hI ih_55 => ?_)
              obtain ⟨hk, ⟨w_l55, hW, hR⟩, hS, hl⟩ := hI
              refine lv_iload hx hb dX3_change_55 (lv_at hl 5 rfl) ?_
              refine lv_iload hx hb dX3_change_57 (lv_at hl 4 rfl) ?_
              refine lv_icmp_ge (tgt := 86) hx hb dX3_change_59 (by decide) (fun c_59 => ?_) (fun c_59 => ?_)
              ·
                have c_59 : (rs r_28).2.length ≤ k := (nI_leI (by omega) (by omega)).mp (show (nI ((rs r_28).2.length) ≤ nI k) from c_59)
                refine lv_aload_n hx hb dX3_change_86 rfl (lv_at hl 0 rfl) ?_
                refine lv_iload_n hx hb dX3_change_87 rfl (lv_at hl 1 rfl) ?_
                refine lv_aload_n hx hb dX3_change_88 rfl (lv_at hl 0 rfl) ?_
                refine lv_iload_n hx hb dX3_change_89 rfl (lv_at hl 2 rfl) ?_
                refine wd_callVi (As := [.int (nI uN)]) (rest := [.int (nI tN), .ref m]) (c2 := 0) (s2 := 0) ⟨hx, hb, hml, hown, hts⟩ (k_X3_sortOf l D cI cT w_l55 H.size m A (kI kp) (fun r => nI (rs r).2.length) fI kp.length cd pl XD XP XU (itN (fun j f => upd f j ((fun x => if way = 0 then j_gr x else j_le x) (lf (rs r_28).2 j))) k XO.1, XO.2) XB tx rs uN hR (by omega) hlv) (cwV 1 hts gX3_change_X3_sortOf rfl rfl rfl (by decide +kernel) ⟨Nat.le_of_ble_eq_true rfl, Nat.le_of_ble_eq_true rfl⟩) gK_ok hK hW (wd_recv (ci := 3) hK.1 hW rfl hR.1) hS hA rfl hl.1 rfl (Nat.le_of_ble_eq_true rfl) dX3_change_90 ⟨Nat.le_of_ble_eq_true rfl, Nat.le_of_ble_eq_true rfl⟩ rfl rfl (fun r_90 w_90 H locs hp_90 hW hz hS => ?_)
                obtain ⟨q_r, q_w⟩ := hp_90
                subst r_90
                subst w_90
                refine wd_topE (y := (rs r_28).1) (by rw [htx_28]; rfl) ?_
                refine lv_aload_n hx hb dX3_change_93 rfl (lv_at hl 0 rfl) ?_
                refine wd_get (ci := 3) (v := .ref (A 8)) (C := RX3) (T := TX3) (N := 18) hx hb hts (by decide +kernel) hown hK.1 hW hR.1 rfl 14 (by decide) (hts (.fieldLink RX3 38 "CharRowsModel" "others" "[I") (by decide +kernel)) (fun _ h9 => h9) rfl dX3_change_94 ?_
                refine lv_iload hx hb dX3_change_97 (lv_at hl 4 rfl) ?_
                refine wd_callVi (As := [.int (nI tN), .int ((rs r_28).1), .ref (A 8), .int (nI ((rs r_28).2.length))]) (rest := []) (c2 := 0) (s2 := 0) ⟨hx, hb, hml, hown, hts⟩ (k_X3_become8 l D cI cT w_l55 H.size m A fI cd pl XD XP XU (itN (fun j f => upd f j ((fun x => if way = 0 then j_gr x else j_le x) (lf (rs r_28).2 j))) k XO.1, XO.2) XB tx kp rs tN ((rs r_28).1) ((rs r_28).2.length) hR (by omega) h10 hkp hlv hk24 hit (by omega)) (cwV 4 hts gX3_change_X3_become rfl rfl rfl (by decide +kernel) ⟨Nat.le_of_ble_eq_true rfl, Nat.le_of_ble_eq_true rfl⟩) gK_ok hK hW (wd_recv (ci := 3) hK.1 hW rfl hR.1) hS hA rfl hl.1 rfl (Nat.le_of_ble_eq_true rfl) dX3_change_99 ⟨Nat.le_of_ble_eq_true rfl, Nat.le_of_ble_eq_true rfl⟩ rfl rfl (fun r_99 w_99 H locs hp_99 hW hz hS => ?_)
                obtain ⟨q_r, f_99, hit_99, hR⟩ := hp_99
                subst r_99
                refine wd_iret hx hb hr hlocks hW hS dX3_change_102 ?_
                have e9 : s_change (cd, pl, df, tx, kp, rs) (nI tN) (nI uN) way = (nI ((rs r_28).2.length), 0, pl, df, (va_up tx tN (some (u_free tx kp))), kp, (va_up rs (u_free tx kp) ((rs r_28).1, (rl ((itN (fun j f => upd f j ((fun x => if way = 0 then j_gr x else j_le x) (lf (rs r_28).2 j))) k XO.1, XO.2).1, (rs r_28).2.length))))) := by simp only [s_change, if_neg (not_or.mpr ⟨c_4, (not_or.mpr ⟨c_11, c_20⟩)⟩), s_w1, s_no, s_mk, if_neg hkd, hcl_t, hcl_u, htx_28]; rw [show (rs r_28).2.map (fun x => if way = 0 then j_gr x else j_le x) = (rl ((itN (fun j f => upd f j ((fun x => if way = 0 then j_gr x else j_le x) (lf (rs r_28).2 j))) k XO.1, XO.2).1, (rs r_28).2.length)) from by rw [show k = (rs r_28).2.length by omega]; exact (rl_layL (φ := fun x => if way = 0 then j_gr x else j_le x)).symm, rl_len]; first | done | rfl
                show _ = (s_change (cd, pl, df, tx, kp, rs) (nI tN) (nI uN) way).1 ∧ InvR cI m (s_change (cd, pl, df, tx, kp, rs) (nI tN) (nI uN) way).2 _
                rw [e9]
                exact ⟨rfl, A, f_99, XD, XP, XU, (itN (fun j f => upd f j ((fun x => if way = 0 then j_gr x else j_le x) (lf (rs r_28).2 j))) k XO.1, XO.2), XB, hR, hdf, hit_99⟩
              ·
                have c_59 : ¬ ((rs r_28).2.length ≤ k) := fun q9 => absurd ((nI_leI (by omega) (by omega)).mpr q9) (show ¬ (nI ((rs r_28).2.length) ≤ nI k) from c_59)
                refine lv_aload_n hx hb dX3_change_62 rfl (lv_at hl 0 rfl) ?_
                refine wd_get (ci := 3) (v := .ref (A 8)) (C := RX3) (T := TX3) (N := 18) hx hb hts (by decide +kernel) hown hK.1 hW hR.1 rfl 14 (by decide) (hts (.fieldLink RX3 38 "CharRowsModel" "others" "[I") (by decide +kernel)) (fun _ h9 => h9) rfl dX3_change_63 ?_
                refine lv_iload hx hb dX3_change_66 (lv_at hl 5 rfl) ?_
                refine lv_aload_n hx hb dX3_change_68 rfl (lv_at hl 0 rfl) ?_
                refine lv_iload_n hx hb dX3_change_69 rfl (lv_at hl 2 rfl) ?_
                refine lv_iload hx hb dX3_change_70 (lv_at hl 5 rfl) ?_
                refine wd_callVi (As := [.int (nI uN), .int (nI k)]) (rest := [.int (nI k), .ref (A 8)]) (c2 := 0) (s2 := 0) ⟨hx, hb, hml, hown, hts⟩ (k_X3_item l D cI cT w_l55 H.size m A (kI kp) (fun r => (rs r).1) (fun r => nI (rs r).2.length) fI kp.length cd pl XD XP XU (itN (fun j f => upd f j ((fun x => if way = 0 then j_gr x else j_le x) (lf (rs r_28).2 j))) k XO.1, XO.2) XB tx rs uN r_28 k hR (by omega) htx_28 hr24_28 hit (by omega)) (cwV 2 hts gX3_change_X3_item rfl rfl rfl (by decide +kernel) ⟨Nat.le_of_ble_eq_true rfl, Nat.le_of_ble_eq_true rfl⟩) gK_ok hK hW (wd_recv (ci := 3) hK.1 hW rfl hR.1) hS hA rfl hl.1 rfl (Nat.le_of_ble_eq_true rfl) dX3_change_72 ⟨Nat.le_of_ble_eq_true rfl, Nat.le_of_ble_eq_true rfl⟩ rfl rfl (fun r_72 w_72 H locs hp_72 hW hz hS => ?_)
                obtain ⟨q_r, q_w⟩ := hp_72
                subst r_72
                subst w_72
                refine lv_iload_n hx hb dX3_change_75 rfl (lv_at hl 3 rfl) ?_
                refine wd_callSi (As := [.int (lf (rs r_28).2 k), .int way]) (rest := [.int (nI k), .ref (A 8)]) (c2 := 0) (s2 := 0) ⟨hx, hb, hml, hown, hts⟩ (k_X3_inCase l D cI cT w_l55 H.size (lf (rs r_28).2 k) way ) (va_cwS 2 hts gX3_change_X3_inCase rfl rfl rfl (by decide +kernel) ⟨Nat.le_of_ble_eq_true rfl, Nat.le_of_ble_eq_true rfl⟩) gK_ok hK hW hS hA rfl hl.1 rfl (Nat.le_of_ble_eq_true rfl) dX3_change_76 ⟨Nat.le_of_ble_eq_true rfl, Nat.le_of_ble_eq_true rfl⟩ rfl rfl (fun r_76 w_76 H locs hp_76 hW hz hS => ?_)
                obtain ⟨q_r, q_w⟩ := hp_76
                subst r_76
                subst w_76
                refine wd_iast hx hb hK.1 hW hS 0 hR.2.2.2.2.2.2.2.2.2.1 rfl (vp_in_nI (by omega) (by omega)) dX3_change_79 (fun H locs hW hS => ?_)
                rw [nI_clamp (by omega)] at hW
                obtain ⟨w_v1, hW, hR⟩ : ∃ w', wd_P D vwCl (wd_A w sg.heap.size) w' H ∧ rW cI m A (fun t => oI (tx t)) (kI kp) (fun r => (rs r).1) (fun r => nI (rs r).2.length) fI kp.length cd pl XD XP XU ((upd (itN (fun j f => upd f j ((fun x => if way = 0 then j_gr x else j_le x) (lf (rs r_28).2 j))) k XO.1) k (if way = 0 then j_gr (lf (rs r_28).2 k) else j_le (lf (rs r_28).2 k))), XO.2) XB w' := ⟨_, hW, hR.aXO (upd (itN (fun j f => upd f j ((fun x => if way = 0 then j_gr x else j_le x) (lf (rs r_28).2 j))) k XO.1) k (if way = 0 then j_gr (lf (rs r_28).2 k) else j_le (lf (rs r_28).2 k)))⟩
                refine lv_iinc (v := nI (k + 1)) (lv' := [(6, .int (nI (k + 1))), (0, .ref m), (1, .int (nI tN)), (2, .int (nI uN)), (3, .int way), (5, .int (nI ((rs r_28).2.length)))]) hx hb dX3_change_80 hl (k := 5) rfl (nI_add k 1) (by decide) rfl (fun ls hl => ?_)
                refine lv_goto (tgt := 55) hx hb dX3_change_83 (by decide) ?_
                exact ih_55 (k + 1) H locs ls ⟨(by omega), ⟨_, hW, hR⟩, hS, (lv_sub hl [1, 2, 3, 4, 5, 0] rfl)⟩ (by omega)
            ·
              exact absurd rfl c_35
      ·
        have c_20 := w_no (w_way way) (j_b0 c_20)
        refine lv_ldc (v := (-2000000001)) hx hb hown (hts (.constant RX3 107 (-2000000001)) (by decide +kernel)) dX3_change_23 ?_
        refine wd_iret hx hb hr hlocks hW hS dX3_change_25 ?_
        have e9 : s_change (cd, pl, df, tx, kp, rs) (nI tN) (nI uN) way = ((-2000000001), cd, pl, df, tx, kp, rs) := by simp only [s_change, if_pos (Or.inr (Or.inr c_20)), s_w1, s_no, s_mk, hcl_t, hcl_u]
        show _ = (s_change (cd, pl, df, tx, kp, rs) (nI tN) (nI uN) way).1 ∧ InvR cI m (s_change (cd, pl, df, tx, kp, rs) (nI tN) (nI uN) way).2 _
        rw [e9]
        exact ⟨rfl, A, fI, XD, XP, XU, XO, XB, hR, hdf, hit⟩
set_option maxHeartbeats 4000000 in
set_option maxRecDepth 100000 in
theorem k_X3_join (l : Launch) (D : va_G) (cI cT : ClassId) (w : Wd) (sz : Nat) (m : Nat) (cd : Int32) (pl : Int32) (df : List Int32) (tx : Nat → Option Nat) (kp : List Nat) (rs : Rws) (t : Int32) (a : Int32) (b : Int32) (hwf : WF (cd, pl, df, tx, kp, rs)) (hI : InvR cI m (cd, pl, df, tx, kp, rs) w) : wd_Mi l D vwCl (gK D cI cT) yX3_join wsX3_join (wd_rm 3 0 0) [.ref m, .int t, .int a, .int b] w sz (fun r w' => r = (s_join (cd, pl, df, tx, kp, rs) t a b).1 ∧ InvR cI m (s_join (cd, pl, df, tx, kp, rs) t a b).2 w') := by
  refine wd_met (cc := cX3_join) (maxL := 7) (ret := (some .int)) (by decide) rfl (Nat.le_of_ble_eq_true rfl) ?_
  intro pg ev sg mi bl mt cde ls C0 hsz hK hW hl
  obtain ⟨hx, hb, hr, hml, hown, hts, hlocks, hnm⟩ := C0
  subst hsz
  have hown : sg.vm.findClass RX3 = some mi.cls := hown
  have hS : va_S (wd_A w sg.heap.size) sg.heap sg.heap [] := va_S.rf
  have hA : ∀ q, sg.heap.size ≤ q → wd_A w sg.heap.size q := fun q h => Or.inr h
  have hl : lv_has ls 7 [(0, .ref m), (1, .int t), (2, .int a), (3, .int b)] := hl
  obtain ⟨A, fI, XD, XP, XU, XO, XB, hR, hdf, hit⟩ := hI
  dsimp only at hR hdf hit
  have h10 : ∀ t, 10 ≤ t → tx t = none := hwf.2.1
  have hkp : kp.length ≤ 12 := hwf.2.2.1
  have hlv : ∀ t r, tx t = some r → r < 24 := fun t r h => (hwf.2.2.2.1 r (Or.inl ⟨t, h⟩)).1
  have hok : ∀ t r, tx t = some r → rOK (rs r) := fun t r h => (hwf.2.2.2.1 r (Or.inl ⟨t, h⟩)).2
  have hk24 : ∀ r ∈ kp, r < 24 := fun r h => (hwf.2.2.2.1 r (Or.inr h)).1
  have hdl : df.length = XD.2 := by rw [← hdf, rl_len]
  have hd60 : df.length ≤ 60 := hwf.1.1
  refine lv_iload_n hx hb dX3_join_0 rfl (lv_at hl 1 rfl) ?_
  refine wd_callSi (As := [.int t]) (rest := []) (c2 := 0) (s2 := 0) ⟨hx, hb, hml, hown, hts⟩ (k_X3_isText l D cI cT w sg.heap.size t ) (va_cwS 1 hts gX3_join_X3_isText rfl rfl rfl (by decide +kernel) ⟨Nat.le_of_ble_eq_true rfl, Nat.le_of_ble_eq_true rfl⟩) gK_ok hK hW hS hA rfl hl.1 rfl (Nat.le_of_ble_eq_true rfl) dX3_join_1 ⟨Nat.le_of_ble_eq_true rfl, Nat.le_of_ble_eq_true rfl⟩ rfl rfl (fun r_1 w_1 H locs hp_1 hW hz hS => ?_)
  obtain ⟨q_r, q_w⟩ := hp_1
  subst r_1
  subst w_1
  refine lv_if_eq (tgt := 21) hx hb dX3_join_4 (by decide) (fun c_4 => ?_) (fun c_4 => ?_)
  ·
    have c_4 := nt_of (j_b0 c_4)
    refine lv_ldc (v := (-2000000001)) hx hb hown (hts (.constant RX3 107 (-2000000001)) (by decide +kernel)) dX3_join_21 ?_
    refine wd_iret hx hb hr hlocks hW hS dX3_join_23 ?_
    have e9 : s_join (cd, pl, df, tx, kp, rs) t a b = ((-2000000001), cd, pl, df, tx, kp, rs) := by simp only [s_join, if_pos (Or.inl c_4), s_w2, s_no, s_mk]
    show _ = (s_join (cd, pl, df, tx, kp, rs) t a b).1 ∧ InvR cI m (s_join (cd, pl, df, tx, kp, rs) t a b).2 _
    rw [e9]
    exact ⟨rfl, A, fI, XD, XP, XU, XO, XB, hR, hdf, hit⟩
  ·
    have c_4 := j_bn c_4
    obtain ⟨tN, htN, htE⟩ := nt_spec c_4
    subst htE
    have hcl_t : (nI tN).toNatClampNeg = tN := nI_clamp (by omega)
    refine lv_iload_n hx hb dX3_join_7 rfl (lv_at hl 2 rfl) ?_
    refine wd_callSi (As := [.int a]) (rest := []) (c2 := 0) (s2 := 0) ⟨hx, hb, hml, hown, hts⟩ (k_X3_isText l D cI cT w H.size a ) (va_cwS 1 hts gX3_join_X3_isText rfl rfl rfl (by decide +kernel) ⟨Nat.le_of_ble_eq_true rfl, Nat.le_of_ble_eq_true rfl⟩) gK_ok hK hW hS hA rfl hl.1 rfl (Nat.le_of_ble_eq_true rfl) dX3_join_8 ⟨Nat.le_of_ble_eq_true rfl, Nat.le_of_ble_eq_true rfl⟩ rfl rfl (fun r_8 w_8 H locs hp_8 hW hz hS => ?_)
    obtain ⟨q_r, q_w⟩ := hp_8
    subst r_8
    subst w_8
    refine lv_if_eq (tgt := 21) hx hb dX3_join_11 (by decide) (fun c_11 => ?_) (fun c_11 => ?_)
    ·
      have c_11 := nt_of (j_b0 c_11)
      refine lv_ldc (v := (-2000000001)) hx hb hown (hts (.constant RX3 107 (-2000000001)) (by decide +kernel)) dX3_join_21 ?_
      refine wd_iret hx hb hr hlocks hW hS dX3_join_23 ?_
      have e9 : s_join (cd, pl, df, tx, kp, rs) (nI tN) a b = ((-2000000001), cd, pl, df, tx, kp, rs) := by simp only [s_join, if_pos (Or.inr (Or.inl c_11)), s_w2, s_no, s_mk, hcl_t]
      show _ = (s_join (cd, pl, df, tx, kp, rs) (nI tN) a b).1 ∧ InvR cI m (s_join (cd, pl, df, tx, kp, rs) (nI tN) a b).2 _
      rw [e9]
      exact ⟨rfl, A, fI, XD, XP, XU, XO, XB, hR, hdf, hit⟩
    ·
      have c_11 := j_bn c_11
      obtain ⟨aN, haN, haE⟩ := nt_spec c_11
      subst haE
      have hcl_a : (nI aN).toNatClampNeg = aN := nI_clamp (by omega)
      refine lv_iload_n hx hb dX3_join_14 rfl (lv_at hl 3 rfl) ?_
      refine wd_callSi (As := [.int b]) (rest := []) (c2 := 0) (s2 := 0) ⟨hx, hb, hml, hown, hts⟩ (k_X3_isText l D cI cT w H.size b ) (va_cwS 1 hts gX3_join_X3_isText rfl rfl rfl (by decide +kernel) ⟨Nat.le_of_ble_eq_true rfl, Nat.le_of_ble_eq_true rfl⟩) gK_ok hK hW hS hA rfl hl.1 rfl (Nat.le_of_ble_eq_true rfl) dX3_join_15 ⟨Nat.le_of_ble_eq_true rfl, Nat.le_of_ble_eq_true rfl⟩ rfl rfl (fun r_15 w_15 H locs hp_15 hW hz hS => ?_)
      obtain ⟨q_r, q_w⟩ := hp_15
      subst r_15
      subst w_15
      refine lv_if_ne (tgt := 24) hx hb dX3_join_18 (by decide) (fun c_18 => ?_) (fun c_18 => ?_)
      ·
        have c_18 := j_bn c_18
        obtain ⟨bN, hbN, hbE⟩ := nt_spec c_18
        subst hbE
        have hcl_b : (nI bN).toNatClampNeg = bN := nI_clamp (by omega)
        refine lv_aload_n hx hb dX3_join_24 rfl (lv_at hl 0 rfl) ?_
        refine lv_iload_n hx hb dX3_join_25 rfl (lv_at hl 2 rfl) ?_
        refine wd_callVi (As := [.int (nI aN)]) (rest := []) (c2 := 0) (s2 := 0) ⟨hx, hb, hml, hown, hts⟩ (k_X3_sortOf l D cI cT w H.size m A (kI kp) (fun r => nI (rs r).2.length) fI kp.length cd pl XD XP XU XO XB tx rs aN hR (by omega) hlv) (cwV 1 hts gX3_join_X3_sortOf rfl rfl rfl (by decide +kernel) ⟨Nat.le_of_ble_eq_true rfl, Nat.le_of_ble_eq_true rfl⟩) gK_ok hK hW (wd_recv (ci := 3) hK.1 hW rfl hR.1) hS hA rfl hl.1 rfl (Nat.le_of_ble_eq_true rfl) dX3_join_26 ⟨Nat.le_of_ble_eq_true rfl, Nat.le_of_ble_eq_true rfl⟩ rfl rfl (fun r_26 w_26 H locs hp_26 hW hz hS => ?_)
        obtain ⟨q_r, q_w⟩ := hp_26
        subst r_26
        subst w_26
        cases htx_26 : tx aN with
        | none =>
          refine wd_topE (y := -1) rfl ?_
          refine lv_iconst (v := (-1)) hx hb dX3_join_29 (by decide) ?_
          refine lv_icmp_eq (tgt := 42) hx hb dX3_join_30 (by decide) (fun c_30 => ?_) (fun c_30 => ?_)
          ·
            refine lv_aload_n hx hb dX3_join_42 rfl (lv_at hl 0 rfl) ?_
            refine lv_iconst (v := 1) hx hb dX3_join_43 (by decide) ?_
            refine wd_callVi (As := [.int 1]) (rest := []) (c2 := 0) (s2 := 0) ⟨hx, hb, hml, hown, hts⟩ (k_X3_no l D cI cT w H.size m A (fun t => oI (tx t)) (kI kp) (fun r => (rs r).1) (fun r => nI (rs r).2.length) fI kp.length cd pl XD XP XU XO XB 1 hR) (cwV 1 hts gX3_join_X3_no rfl rfl rfl (by decide +kernel) ⟨Nat.le_of_ble_eq_true rfl, Nat.le_of_ble_eq_true rfl⟩) gK_ok hK hW (wd_recv (ci := 3) hK.1 hW rfl hR.1) hS hA rfl hl.1 rfl (Nat.le_of_ble_eq_true rfl) dX3_join_44 ⟨Nat.le_of_ble_eq_true rfl, Nat.le_of_ble_eq_true rfl⟩ rfl rfl (fun r_44 w_44 H locs hp_44 hW hz hS => ?_)
            obtain ⟨q_r, hR⟩ := hp_44
            subst r_44
            refine wd_iret hx hb hr hlocks hW hS dX3_join_47 ?_
            have e9 : s_join (cd, pl, df, tx, kp, rs) (nI tN) (nI aN) (nI bN) = (0, 1, pl, df, tx, kp, rs) := by simp only [s_join, if_neg (not_or.mpr ⟨c_4, (not_or.mpr ⟨c_11, c_18⟩)⟩), s_w2, s_no, s_mk, hcl_t, hcl_a, hcl_b, htx_26]
            show _ = (s_join (cd, pl, df, tx, kp, rs) (nI tN) (nI aN) (nI bN)).1 ∧ InvR cI m (s_join (cd, pl, df, tx, kp, rs) (nI tN) (nI aN) (nI bN)).2 _
            rw [e9]
            exact ⟨rfl, A, fI, XD, XP, XU, XO, XB, hR, hdf, hit⟩
          ·
            exact absurd rfl c_30
        | some r_26 =>
          refine wd_topE (y := (rs r_26).1) rfl ?_
          have hr24_26 := hlv _ _ htx_26
          refine lv_iconst (v := (-1)) hx hb dX3_join_29 (by decide) ?_
          refine lv_icmp_eq (tgt := 42) hx hb dX3_join_30 (by decide) (fun c_30 => ?_) (fun c_30 => ?_)
          ·
            exact absurd c_30 (hok _ _ htx_26).nm1
          ·
            refine lv_aload_n hx hb dX3_join_33 rfl (lv_at hl 0 rfl) ?_
            refine lv_iload_n hx hb dX3_join_34 rfl (lv_at hl 3 rfl) ?_
            refine wd_callVi (As := [.int (nI bN)]) (rest := []) (c2 := 0) (s2 := 0) ⟨hx, hb, hml, hown, hts⟩ (k_X3_sortOf l D cI cT w H.size m A (kI kp) (fun r => nI (rs r).2.length) fI kp.length cd pl XD XP XU XO XB tx rs bN hR (by omega) hlv) (cwV 1 hts gX3_join_X3_sortOf rfl rfl rfl (by decide +kernel) ⟨Nat.le_of_ble_eq_true rfl, Nat.le_of_ble_eq_true rfl⟩) gK_ok hK hW (wd_recv (ci := 3) hK.1 hW rfl hR.1) hS hA rfl hl.1 rfl (Nat.le_of_ble_eq_true rfl) dX3_join_35 ⟨Nat.le_of_ble_eq_true rfl, Nat.le_of_ble_eq_true rfl⟩ rfl rfl (fun r_35 w_35 H locs hp_35 hW hz hS => ?_)
            obtain ⟨q_r, q_w⟩ := hp_35
            subst r_35
            subst w_35
            cases htx_35 : tx bN with
            | none =>
              refine wd_topE (y := -1) rfl ?_
              refine lv_iconst (v := (-1)) hx hb dX3_join_38 (by decide) ?_
              refine lv_icmp_ne (tgt := 48) hx hb dX3_join_39 (by decide) (fun c_39 => ?_) (fun c_39 => ?_)
              ·
                exact absurd rfl c_39
              ·
                refine lv_aload_n hx hb dX3_join_42 rfl (lv_at hl 0 rfl) ?_
                refine lv_iconst (v := 1) hx hb dX3_join_43 (by decide) ?_
                refine wd_callVi (As := [.int 1]) (rest := []) (c2 := 0) (s2 := 0) ⟨hx, hb, hml, hown, hts⟩ (k_X3_no l D cI cT w H.size m A (fun t => oI (tx t)) (kI kp) (fun r => (rs r).1) (fun r => nI (rs r).2.length) fI kp.length cd pl XD XP XU XO XB 1 hR) (cwV 1 hts gX3_join_X3_no rfl rfl rfl (by decide +kernel) ⟨Nat.le_of_ble_eq_true rfl, Nat.le_of_ble_eq_true rfl⟩) gK_ok hK hW (wd_recv (ci := 3) hK.1 hW rfl hR.1) hS hA rfl hl.1 rfl (Nat.le_of_ble_eq_true rfl) dX3_join_44 ⟨Nat.le_of_ble_eq_true rfl, Nat.le_of_ble_eq_true rfl⟩ rfl rfl (fun r_44 w_44 H locs hp_44 hW hz hS => ?_)
                obtain ⟨q_r, hR⟩ := hp_44
                subst r_44
                refine wd_iret hx hb hr hlocks hW hS dX3_join_47 ?_
                have e9 : s_join (cd, pl, df, tx, kp, rs) (nI tN) (nI aN) (nI bN) = (0, 1, pl, df, tx, kp, rs) := by simp only [s_join, if_neg (not_or.mpr ⟨c_4, (not_or.mpr ⟨c_11, c_18⟩)⟩), s_w2, s_no, s_mk, hcl_t, hcl_a, hcl_b, htx_26, htx_35]
                show _ = (s_join (cd, pl, df, tx, kp, rs) (nI tN) (nI aN) (nI bN)).1 ∧ InvR cI m (s_join (cd, pl, df, tx, kp, rs) (nI tN) (nI aN) (nI bN)).2 _
                rw [e9]
                exact ⟨rfl, A, fI, XD, XP, XU, XO, XB, hR, hdf, hit⟩
            | some r_35 =>
              refine wd_topE (y := (rs r_35).1) rfl ?_
              have hr24_35 := hlv _ _ htx_35
              refine lv_iconst (v := (-1)) hx hb dX3_join_38 (by decide) ?_
              refine lv_icmp_ne (tgt := 48) hx hb dX3_join_39 (by decide) (fun c_39 => ?_) (fun c_39 => ?_)
              ·
                refine lv_aload_n hx hb dX3_join_48 rfl (lv_at hl 0 rfl) ?_
                refine lv_iload_n hx hb dX3_join_49 rfl (lv_at hl 2 rfl) ?_
                refine wd_callVi (As := [.int (nI aN)]) (rest := []) (c2 := 0) (s2 := 0) ⟨hx, hb, hml, hown, hts⟩ (k_X3_sortOf l D cI cT w H.size m A (kI kp) (fun r => nI (rs r).2.length) fI kp.length cd pl XD XP XU XO XB tx rs aN hR (by omega) hlv) (cwV 1 hts gX3_join_X3_sortOf rfl rfl rfl (by decide +kernel) ⟨Nat.le_of_ble_eq_true rfl, Nat.le_of_ble_eq_true rfl⟩) gK_ok hK hW (wd_recv (ci := 3) hK.1 hW rfl hR.1) hS hA rfl hl.1 rfl (Nat.le_of_ble_eq_true rfl) dX3_join_50 ⟨Nat.le_of_ble_eq_true rfl, Nat.le_of_ble_eq_true rfl⟩ rfl rfl (fun r_50 w_50 H locs hp_50 hW hz hS => ?_)
                obtain ⟨q_r, q_w⟩ := hp_50
                subst r_50
                subst w_50
                refine wd_topE (y := (rs r_26).1) (by rw [htx_26]; rfl) ?_
                refine lv_aload_n hx hb dX3_join_53 rfl (lv_at hl 0 rfl) ?_
                refine lv_iload_n hx hb dX3_join_54 rfl (lv_at hl 3 rfl) ?_
                refine wd_callVi (As := [.int (nI bN)]) (rest := [.int ((rs r_26).1)]) (c2 := 0) (s2 := 0) ⟨hx, hb, hml, hown, hts⟩ (k_X3_sortOf l D cI cT w H.size m A (kI kp) (fun r => nI (rs r).2.length) fI kp.length cd pl XD XP XU XO XB tx rs bN hR (by omega) hlv) (cwV 1 hts gX3_join_X3_sortOf rfl rfl rfl (by decide +kernel) ⟨Nat.le_of_ble_eq_true rfl, Nat.le_of_ble_eq_true rfl⟩) gK_ok hK hW (wd_recv (ci := 3) hK.1 hW rfl hR.1) hS hA rfl hl.1 rfl (Nat.le_of_ble_eq_true rfl) dX3_join_55 ⟨Nat.le_of_ble_eq_true rfl, Nat.le_of_ble_eq_true rfl⟩ rfl rfl (fun r_55 w_55 H locs hp_55 hW hz hS => ?_)
                obtain ⟨q_r, q_w⟩ := hp_55
                subst r_55
                subst w_55
                refine wd_topE (y := (rs r_35).1) (by rw [htx_35]; rfl) ?_
                refine lv_icmp_eq (tgt := 67) hx hb dX3_join_58 (by decide) (fun c_58 => ?_) (fun c_58 => ?_)
                ·
                  have hla := (hok _ _ htx_26).len
                  have hlb := (hok _ _ htx_35).len
                  have hlj : ((rs r_26).2 ++ (rs r_35).2).length = (rs r_26).2.length + (rs r_35).2.length := List.length_append
                  refine lv_aload_n hx hb dX3_join_67 rfl (lv_at hl 0 rfl) ?_
                  refine lv_iload_n hx hb dX3_join_68 rfl (lv_at hl 2 rfl) ?_
                  refine wd_callVi (As := [.int (nI aN)]) (rest := []) (c2 := 0) (s2 := 0) ⟨hx, hb, hml, hown, hts⟩ (k_X3_manyOf l D cI cT w H.size m A (kI kp) (fun r => (rs r).1) fI kp.length cd pl XD XP XU XO XB tx rs aN r_26 hR (by omega) htx_26 hr24_26) (cwV 1 hts gX3_join_X3_manyOf rfl rfl rfl (by decide +kernel) ⟨Nat.le_of_ble_eq_true rfl, Nat.le_of_ble_eq_true rfl⟩) gK_ok hK hW (wd_recv (ci := 3) hK.1 hW rfl hR.1) hS hA rfl hl.1 rfl (Nat.le_of_ble_eq_true rfl) dX3_join_69 ⟨Nat.le_of_ble_eq_true rfl, Nat.le_of_ble_eq_true rfl⟩ rfl rfl (fun r_69 w_69 H locs hp_69 hW hz hS => ?_)
                  obtain ⟨q_r, q_w⟩ := hp_69
                  subst r_69
                  subst w_69
                  refine lv_istore (lv' := [(4, .int (nI ((rs r_26).2.length))), (0, .ref m), (1, .int (nI tN)), (2, .int (nI aN)), (3, .int (nI bN))]) hx hb dX3_join_72 hl (by decide) rfl (fun ls hl => ?_)
                  refine lv_aload_n hx hb dX3_join_74 rfl (lv_at hl 1 rfl) ?_
                  refine lv_iload_n hx hb dX3_join_75 rfl (lv_at hl 4 rfl) ?_
                  refine wd_callVi (As := [.int (nI bN)]) (rest := []) (c2 := 0) (s2 := 0) ⟨hx, hb, hml, hown, hts⟩ (k_X3_manyOf l D cI cT w H.size m A (kI kp) (fun r => (rs r).1) fI kp.length cd pl XD XP XU XO XB tx rs bN r_35 hR (by omega) htx_35 hr24_35) (cwV 1 hts gX3_join_X3_manyOf rfl rfl rfl (by decide +kernel) ⟨Nat.le_of_ble_eq_true rfl, Nat.le_of_ble_eq_true rfl⟩) gK_ok hK hW (wd_recv (ci := 3) hK.1 hW rfl hR.1) hS hA rfl hl.1 rfl (Nat.le_of_ble_eq_true rfl) dX3_join_76 ⟨Nat.le_of_ble_eq_true rfl, Nat.le_of_ble_eq_true rfl⟩ rfl rfl (fun r_76 w_76 H locs hp_76 hW hz hS => ?_)
                  obtain ⟨q_r, q_w⟩ := hp_76
                  subst r_76
                  subst w_76
                  refine lv_istore (lv' := [(5, .int (nI ((rs r_35).2.length))), (4, .int (nI ((rs r_26).2.length))), (0, .ref m), (1, .int (nI tN)), (2, .int (nI aN)), (3, .int (nI bN))]) hx hb dX3_join_79 hl (by decide) rfl (fun ls hl => ?_)
                  refine lv_iload hx hb dX3_join_81 (lv_at hl 1 rfl) ?_
                  refine lv_iload hx hb dX3_join_83 (lv_at hl 0 rfl) ?_
                  refine lv_iadd hx hb dX3_join_85 ?_
                  refine wd_topE (y := nI ((rs r_26).2.length + (rs r_35).2.length)) (nI_add _ _) ?_
                  refine lv_aload_n hx hb dX3_join_86 rfl (lv_at hl 2 rfl) ?_
                  refine lv_iload_n hx hb dX3_join_87 rfl (lv_at hl 4 rfl) ?_
                  refine wd_callVi (As := [.int (nI aN)]) (rest := [.int (nI ((rs r_26).2.length + (rs r_35).2.length))]) (c2 := 0) (s2 := 0) ⟨hx, hb, hml, hown, hts⟩ (k_X3_sortOf l D cI cT w H.size m A (kI kp) (fun r => nI (rs r).2.length) fI kp.length cd pl XD XP XU XO XB tx rs aN hR (by omega) hlv) (cwV 1 hts gX3_join_X3_sortOf rfl rfl rfl (by decide +kernel) ⟨Nat.le_of_ble_eq_true rfl, Nat.le_of_ble_eq_true rfl⟩) gK_ok hK hW (wd_recv (ci := 3) hK.1 hW rfl hR.1) hS hA rfl hl.1 rfl (Nat.le_of_ble_eq_true rfl) dX3_join_88 ⟨Nat.le_of_ble_eq_true rfl, Nat.le_of_ble_eq_true rfl⟩ rfl rfl (fun r_88 w_88 H locs hp_88 hW hz hS => ?_)
                  obtain ⟨q_r, q_w⟩ := hp_88
                  subst r_88
                  subst w_88
                  refine wd_topE (y := (rs r_26).1) (by rw [htx_26]; rfl) ?_
                  refine lv_iconst (v := 2) hx hb dX3_join_91 (by decide) ?_
                  refine lv_icmp_ne (tgt := 101) hx hb dX3_join_92 (by decide) (fun c_92 => ?_) (fun c_92 => ?_)
                  ·
                    refine lv_bipush (v := 60) hx hb dX3_join_101 (by decide) ?_
                    refine lv_icmp_le (tgt := 113) hx hb dX3_join_103 (by decide) (fun c_103 => ?_) (fun c_103 => ?_)
                    ·
                      have c_103 : (rs r_26).2.length + (rs r_35).2.length ≤ 60 := (nI_leI (by omega) (by omega)).mp (show (nI ((rs r_26).2.length + (rs r_35).2.length) ≤ nI 60) from c_103)
                      refine lv_iconst (v := 0) hx hb dX3_join_113 (by decide) ?_
                      refine lv_istore (lv' := [(6, .int 0), (5, .int (nI ((rs r_35).2.length))), (4, .int (nI ((rs r_26).2.length))), (0, .ref m), (1, .int (nI tN)), (2, .int (nI aN)), (3, .int (nI bN))]) hx hb dX3_join_114 hl (by decide) rfl (fun ls hl => ?_)
                      refine wd_loop1 (fun (k : Nat) (H : Heap) (locs : List Loc) (ls : Array Slot) => (k ≤ ((rs r_26).2 ++ (rs r_35).2).length) ∧ (∃ w', wd_P D vwCl (wd_A w sg.heap.size) w' H ∧ rW cI m A (fun t => oI (tx t)) (kI kp) (fun r => (rs r).1) (fun r => nI (rs r).2.length) fI kp.length cd pl XD XP XU (itN (fun j f => upd f j (lf ((rs r_26).2 ++ (rs r_35).2) j)) k XO.1, XO.2) XB w') ∧ va_S (wd_A w sg.heap.size) sg.heap H locs ∧ lv_has ls 7 [(0, .ref m), (1, .int (nI tN)), (2, .int (nI aN)), (3, .int (nI bN)), (4, .int (nI ((rs r_26).2.length))), (5, .int (nI ((rs r_35).2.length))), (6, .int (nI k))]) (fun (k : Nat) => ((rs r_26).2 ++ (rs r_35).2).length - k) 0 ⟨(by omega), ⟨_, hW, hR⟩, hS, (lv_sub hl [3, 4, 5, 6, 2, 1, 0] rfl)⟩ (fun k H locs ls hI ih_116 => ?_)
                      obtain ⟨hk, ⟨w_l116, hW, hR⟩, hS, hl⟩ := hI
                      refine lv_iload hx hb dX3_join_116 (lv_at hl 6 rfl) ?_
                      refine lv_iload hx hb dX3_join_118 (lv_at hl 4 rfl) ?_
                      refine lv_iload hx hb dX3_join_120 (lv_at hl 5 rfl) ?_
                      refine lv_iadd hx hb dX3_join_122 ?_
                      refine wd_topE (y := nI ((rs r_26).2.length + (rs r_35).2.length)) (nI_add _ _) ?_
                      refine lv_icmp_ge (tgt := 166) hx hb dX3_join_123 (by decide) (fun c_123 => ?_) (fun c_123 => ?_)
                      ·
                        have c_123 : (rs r_26).2.length + (rs r_35).2.length ≤ k := (nI_leI (by omega) (by omega)).mp (show (nI ((rs r_26).2.length + (rs r_35).2.length) ≤ nI k) from c_123)
                        refine lv_aload_n hx hb dX3_join_166 rfl (lv_at hl 0 rfl) ?_
                        refine lv_iload_n hx hb dX3_join_167 rfl (lv_at hl 1 rfl) ?_
                        refine lv_aload_n hx hb dX3_join_168 rfl (lv_at hl 0 rfl) ?_
                        refine lv_iload_n hx hb dX3_join_169 rfl (lv_at hl 2 rfl) ?_
                        refine wd_callVi (As := [.int (nI aN)]) (rest := [.int (nI tN), .ref m]) (c2 := 0) (s2 := 0) ⟨hx, hb, hml, hown, hts⟩ (k_X3_sortOf l D cI cT w_l116 H.size m A (kI kp) (fun r => nI (rs r).2.length) fI kp.length cd pl XD XP XU (itN (fun j f => upd f j (lf ((rs r_26).2 ++ (rs r_35).2) j)) k XO.1, XO.2) XB tx rs aN hR (by omega) hlv) (cwV 1 hts gX3_join_X3_sortOf rfl rfl rfl (by decide +kernel) ⟨Nat.le_of_ble_eq_true rfl, Nat.le_of_ble_eq_true rfl⟩) gK_ok hK hW (wd_recv (ci := 3) hK.1 hW rfl hR.1) hS hA rfl hl.1 rfl (Nat.le_of_ble_eq_true rfl) dX3_join_170 ⟨Nat.le_of_ble_eq_true rfl, Nat.le_of_ble_eq_true rfl⟩ rfl rfl (fun r_170 w_170 H locs hp_170 hW hz hS => ?_)
                        obtain ⟨q_r, q_w⟩ := hp_170
                        subst r_170
                        subst w_170
                        refine wd_topE (y := (rs r_26).1) (by rw [htx_26]; rfl) ?_
                        refine lv_aload_n hx hb dX3_join_173 rfl (lv_at hl 0 rfl) ?_
                        refine wd_get (ci := 3) (v := .ref (A 8)) (C := RX3) (T := TX3) (N := 18) hx hb hts (by decide +kernel) hown hK.1 hW hR.1 rfl 14 (by decide) (hts (.fieldLink RX3 38 "CharRowsModel" "others" "[I") (by decide +kernel)) (fun _ h9 => h9) rfl dX3_join_174 ?_
                        refine lv_iload hx hb dX3_join_177 (lv_at hl 4 rfl) ?_
                        refine lv_iload hx hb dX3_join_179 (lv_at hl 5 rfl) ?_
                        refine lv_iadd hx hb dX3_join_181 ?_
                        refine wd_topE (y := nI ((rs r_26).2.length + (rs r_35).2.length)) (nI_add _ _) ?_
                        refine wd_callVi (As := [.int (nI tN), .int ((rs r_26).1), .ref (A 8), .int (nI ((rs r_26).2.length + (rs r_35).2.length))]) (rest := []) (c2 := 0) (s2 := 0) ⟨hx, hb, hml, hown, hts⟩ (k_X3_become8 l D cI cT w_l116 H.size m A fI cd pl XD XP XU (itN (fun j f => upd f j (lf ((rs r_26).2 ++ (rs r_35).2) j)) k XO.1, XO.2) XB tx kp rs tN ((rs r_26).1) ((rs r_26).2.length + (rs r_35).2.length) hR (by omega) h10 hkp hlv hk24 hit (by omega)) (cwV 4 hts gX3_join_X3_become rfl rfl rfl (by decide +kernel) ⟨Nat.le_of_ble_eq_true rfl, Nat.le_of_ble_eq_true rfl⟩) gK_ok hK hW (wd_recv (ci := 3) hK.1 hW rfl hR.1) hS hA rfl hl.1 rfl (Nat.le_of_ble_eq_true rfl) dX3_join_182 ⟨Nat.le_of_ble_eq_true rfl, Nat.le_of_ble_eq_true rfl⟩ rfl rfl (fun r_182 w_182 H locs hp_182 hW hz hS => ?_)
                        obtain ⟨q_r, f_182, hit_182, hR⟩ := hp_182
                        subst r_182
                        refine wd_iret hx hb hr hlocks hW hS dX3_join_185 ?_
                        have e9 : s_join (cd, pl, df, tx, kp, rs) (nI tN) (nI aN) (nI bN) = (nI ((rs r_26).2.length + (rs r_35).2.length), 0, pl, df, (va_up tx tN (some (u_free tx kp))), kp, (va_up rs (u_free tx kp) ((rs r_26).1, (rl ((itN (fun j f => upd f j (lf ((rs r_26).2 ++ (rs r_35).2) j)) k XO.1, XO.2).1, (rs r_26).2.length + (rs r_35).2.length))))) := by simp only [s_join, if_neg (not_or.mpr ⟨c_4, (not_or.mpr ⟨c_11, c_18⟩)⟩), s_w2, s_no, s_mk, if_neg (not_not_intro c_58), if_neg (show ¬ (if (rs r_26).1 = 2 then 240 else 60) < (rs r_26).2.length + (rs r_35).2.length from by rw [if_neg c_92]; omega), hcl_t, hcl_a, hcl_b, htx_26, htx_35]; rw [show (rl ((itN (fun j f => upd f j (lf ((rs r_26).2 ++ (rs r_35).2) j)) k XO.1, XO.2).1, (rs r_26).2.length + (rs r_35).2.length)) = (rs r_26).2 ++ (rs r_35).2 from by rw [show k = ((rs r_26).2 ++ (rs r_35).2).length by omega, ← hlj]; exact rl_lay, hlj]; first | done | rfl
                        show _ = (s_join (cd, pl, df, tx, kp, rs) (nI tN) (nI aN) (nI bN)).1 ∧ InvR cI m (s_join (cd, pl, df, tx, kp, rs) (nI tN) (nI aN) (nI bN)).2 _
                        rw [e9]
                        exact ⟨rfl, A, f_182, XD, XP, XU, (itN (fun j f => upd f j (lf ((rs r_26).2 ++ (rs r_35).2) j)) k XO.1, XO.2), XB, hR, hdf, hit_182⟩
                      ·
                        have c_123 : ¬ ((rs r_26).2.length + (rs r_35).2.length ≤ k) := fun q9 => absurd ((nI_leI (by omega) (by omega)).mpr q9) (show ¬ (nI ((rs r_26).2.length + (rs r_35).2.length) ≤ nI k) from c_123)
                        refine lv_aload_n hx hb dX3_join_126 rfl (lv_at hl 0 rfl) ?_
                        refine wd_get (ci := 3) (v := .ref (A 8)) (C := RX3) (T := TX3) (N := 18) hx hb hts (by decide +kernel) hown hK.1 hW hR.1 rfl 14 (by decide) (hts (.fieldLink RX3 38 "CharRowsModel" "others" "[I") (by decide +kernel)) (fun _ h9 => h9) rfl dX3_join_127 ?_
                        refine lv_iload hx hb dX3_join_130 (lv_at hl 6 rfl) ?_
                        refine lv_iload hx hb dX3_join_132 (lv_at hl 6 rfl) ?_
                        refine lv_iload hx hb dX3_join_134 (lv_at hl 4 rfl) ?_
                        refine lv_icmp_ge (tgt := 149) hx hb dX3_join_136 (by decide) (fun c_136 => ?_) (fun c_136 => ?_)
                        ·
                          have c_136 : (rs r_26).2.length ≤ k := (nI_leI (by omega) (by omega)).mp (show (nI ((rs r_26).2.length) ≤ nI k) from c_136)
                          refine lv_aload_n hx hb dX3_join_149 rfl (lv_at hl 0 rfl) ?_
                          refine lv_iload_n hx hb dX3_join_150 rfl (lv_at hl 3 rfl) ?_
                          refine lv_iload hx hb dX3_join_151 (lv_at hl 6 rfl) ?_
                          refine lv_iload hx hb dX3_join_153 (lv_at hl 4 rfl) ?_
                          refine lv_isub hx hb dX3_join_155 ?_
                          refine wd_topE (y := nI (k - (rs r_26).2.length)) (pk_sub (by omega)) ?_
                          refine wd_callVi (As := [.int (nI bN), .int (nI (k - (rs r_26).2.length))]) (rest := [.int (nI k), .ref (A 8)]) (c2 := 0) (s2 := 0) ⟨hx, hb, hml, hown, hts⟩ (k_X3_item l D cI cT w_l116 H.size m A (kI kp) (fun r => (rs r).1) (fun r => nI (rs r).2.length) fI kp.length cd pl XD XP XU (itN (fun j f => upd f j (lf ((rs r_26).2 ++ (rs r_35).2) j)) k XO.1, XO.2) XB tx rs bN r_35 (k - (rs r_26).2.length) hR (by omega) htx_35 hr24_35 hit (by omega)) (cwV 2 hts gX3_join_X3_item rfl rfl rfl (by decide +kernel) ⟨Nat.le_of_ble_eq_true rfl, Nat.le_of_ble_eq_true rfl⟩) gK_ok hK hW (wd_recv (ci := 3) hK.1 hW rfl hR.1) hS hA rfl hl.1 rfl (Nat.le_of_ble_eq_true rfl) dX3_join_156 ⟨Nat.le_of_ble_eq_true rfl, Nat.le_of_ble_eq_true rfl⟩ rfl rfl (fun r_156 w_156 H locs hp_156 hW hz hS => ?_)
                          obtain ⟨q_r, q_w⟩ := hp_156
                          subst r_156
                          subst w_156
                          refine wd_iast hx hb hK.1 hW hS 0 hR.2.2.2.2.2.2.2.2.2.1 rfl (vp_in_nI (by omega) (by omega)) dX3_join_159 (fun H locs hW hS => ?_)
                          rw [nI_clamp (by omega)] at hW
                          obtain ⟨w_v1, hW, hR⟩ : ∃ w', wd_P D vwCl (wd_A w sg.heap.size) w' H ∧ rW cI m A (fun t => oI (tx t)) (kI kp) (fun r => (rs r).1) (fun r => nI (rs r).2.length) fI kp.length cd pl XD XP XU ((upd (itN (fun j f => upd f j (lf ((rs r_26).2 ++ (rs r_35).2) j)) k XO.1) k (lf (rs r_35).2 (k - (rs r_26).2.length))), XO.2) XB w' := ⟨_, hW, hR.aXO (upd (itN (fun j f => upd f j (lf ((rs r_26).2 ++ (rs r_35).2) j)) k XO.1) k (lf (rs r_35).2 (k - (rs r_26).2.length)))⟩
                          refine lv_iinc (v := nI (k + 1)) (lv' := [(6, .int (nI (k + 1))), (0, .ref m), (1, .int (nI tN)), (2, .int (nI aN)), (3, .int (nI bN)), (4, .int (nI ((rs r_26).2.length))), (5, .int (nI ((rs r_35).2.length)))]) hx hb dX3_join_160 hl (k := 6) rfl (nI_add k 1) (by decide) rfl (fun ls hl => ?_)
                          refine lv_goto (tgt := 116) hx hb dX3_join_163 (by decide) ?_
                          exact ih_116 (k + 1) H locs ls ⟨(by omega), ⟨_, hW, (by rw [show itN (fun j f => upd f j (lf ((rs r_26).2 ++ (rs r_35).2) j)) (k + 1) XO.1 = _ from by (show upd _ k (lf _ k) = _; rw [lf_app, if_neg (by omega)])]; exact hR)⟩, hS, (lv_sub hl [1, 2, 3, 4, 5, 6, 0] rfl)⟩ (by omega)
                        ·
                          have c_136 : ¬ ((rs r_26).2.length ≤ k) := fun q9 => absurd ((nI_leI (by omega) (by omega)).mpr q9) (show ¬ (nI ((rs r_26).2.length) ≤ nI k) from c_136)
                          refine lv_aload_n hx hb dX3_join_139 rfl (lv_at hl 0 rfl) ?_
                          refine lv_iload_n hx hb dX3_join_140 rfl (lv_at hl 2 rfl) ?_
                          refine lv_iload hx hb dX3_join_141 (lv_at hl 6 rfl) ?_
                          refine wd_callVi (As := [.int (nI aN), .int (nI k)]) (rest := [.int (nI k), .ref (A 8)]) (c2 := 0) (s2 := 0) ⟨hx, hb, hml, hown, hts⟩ (k_X3_item l D cI cT w_l116 H.size m A (kI kp) (fun r => (rs r).1) (fun r => nI (rs r).2.length) fI kp.length cd pl XD XP XU (itN (fun j f => upd f j (lf ((rs r_26).2 ++ (rs r_35).2) j)) k XO.1, XO.2) XB tx rs aN r_26 k hR (by omega) htx_26 hr24_26 hit (by omega)) (cwV 2 hts gX3_join_X3_item rfl rfl rfl (by decide +kernel) ⟨Nat.le_of_ble_eq_true rfl, Nat.le_of_ble_eq_true rfl⟩) gK_ok hK hW (wd_recv (ci := 3) hK.1 hW rfl hR.1) hS hA rfl hl.1 rfl (Nat.le_of_ble_eq_true rfl) dX3_join_143 ⟨Nat.le_of_ble_eq_true rfl, Nat.le_of_ble_eq_true rfl⟩ rfl rfl (fun r_143 w_143 H locs hp_143 hW hz hS => ?_)
                          obtain ⟨q_r, q_w⟩ := hp_143
                          subst r_143
                          subst w_143
                          refine lv_goto (tgt := 159) hx hb dX3_join_146 (by decide) ?_
                          refine wd_iast hx hb hK.1 hW hS 0 hR.2.2.2.2.2.2.2.2.2.1 rfl (vp_in_nI (by omega) (by omega)) dX3_join_159 (fun H locs hW hS => ?_)
                          rw [nI_clamp (by omega)] at hW
                          obtain ⟨w_v2, hW, hR⟩ : ∃ w', wd_P D vwCl (wd_A w sg.heap.size) w' H ∧ rW cI m A (fun t => oI (tx t)) (kI kp) (fun r => (rs r).1) (fun r => nI (rs r).2.length) fI kp.length cd pl XD XP XU ((upd (itN (fun j f => upd f j (lf ((rs r_26).2 ++ (rs r_35).2) j)) k XO.1) k (lf (rs r_26).2 k)), XO.2) XB w' := ⟨_, hW, hR.aXO (upd (itN (fun j f => upd f j (lf ((rs r_26).2 ++ (rs r_35).2) j)) k XO.1) k (lf (rs r_26).2 k))⟩
                          refine lv_iinc (v := nI (k + 1)) (lv' := [(6, .int (nI (k + 1))), (0, .ref m), (1, .int (nI tN)), (2, .int (nI aN)), (3, .int (nI bN)), (4, .int (nI ((rs r_26).2.length))), (5, .int (nI ((rs r_35).2.length)))]) hx hb dX3_join_160 hl (k := 6) rfl (nI_add k 1) (by decide) rfl (fun ls hl => ?_)
                          refine lv_goto (tgt := 116) hx hb dX3_join_163 (by decide) ?_
                          exact ih_116 (k + 1) H locs ls ⟨(by omega), ⟨_, hW, (by rw [show itN (fun j f => upd f j (lf ((rs r_26).2 ++ (rs r_35).2) j)) (k + 1) XO.1 = _ from by (show upd _ k (lf _ k) = _; rw [lf_app, if_pos (by omega)])]; exact hR)⟩, hS, (lv_sub hl [1, 2, 3, 4, 5, 6, 0] rfl)⟩ (by omega)
                    ·
                      have c_103 : ¬ ((rs r_26).2.length + (rs r_35).2.length ≤ 60) := fun q9 => absurd ((nI_leI (by omega) (by omega)).mpr q9) (show ¬ (nI ((rs r_26).2.length + (rs r_35).2.length) ≤ nI 60) from c_103)
                      refine lv_aload_n hx hb dX3_join_106 rfl (lv_at hl 2 rfl) ?_
                      refine lv_bipush (v := 6) hx hb dX3_join_107 (by decide) ?_
                      refine wd_callVi (As := [.int 6]) (rest := []) (c2 := 0) (s2 := 0) ⟨hx, hb, hml, hown, hts⟩ (k_X3_no l D cI cT w H.size m A (fun t => oI (tx t)) (kI kp) (fun r => (rs r).1) (fun r => nI (rs r).2.length) fI kp.length cd pl XD XP XU XO XB 6 hR) (cwV 1 hts gX3_join_X3_no rfl rfl rfl (by decide +kernel) ⟨Nat.le_of_ble_eq_true rfl, Nat.le_of_ble_eq_true rfl⟩) gK_ok hK hW (wd_recv (ci := 3) hK.1 hW rfl hR.1) hS hA rfl hl.1 rfl (Nat.le_of_ble_eq_true rfl) dX3_join_109 ⟨Nat.le_of_ble_eq_true rfl, Nat.le_of_ble_eq_true rfl⟩ rfl rfl (fun r_109 w_109 H locs hp_109 hW hz hS => ?_)
                      obtain ⟨q_r, hR⟩ := hp_109
                      subst r_109
                      refine wd_iret hx hb hr hlocks hW hS dX3_join_112 ?_
                      have e9 : s_join (cd, pl, df, tx, kp, rs) (nI tN) (nI aN) (nI bN) = (0, 6, pl, df, tx, kp, rs) := by simp only [s_join, if_neg (not_or.mpr ⟨c_4, (not_or.mpr ⟨c_11, c_18⟩)⟩), s_w2, s_no, s_mk, if_neg (not_not_intro c_58), if_pos (show (if (rs r_26).1 = 2 then 240 else 60) < (rs r_26).2.length + (rs r_35).2.length from by rw [if_neg c_92]; omega), hcl_t, hcl_a, hcl_b, htx_26, htx_35]
                      show _ = (s_join (cd, pl, df, tx, kp, rs) (nI tN) (nI aN) (nI bN)).1 ∧ InvR cI m (s_join (cd, pl, df, tx, kp, rs) (nI tN) (nI aN) (nI bN)).2 _
                      rw [e9]
                      exact ⟨rfl, A, fI, XD, XP, XU, XO, XB, hR, hdf, hit⟩
                  ·
                    refine lv_sipush (v := 240) hx hb dX3_join_95 (by decide) ?_
                    refine lv_goto (tgt := 103) hx hb dX3_join_98 (by decide) ?_
                    refine lv_icmp_le (tgt := 113) hx hb dX3_join_103 (by decide) (fun c_103 => ?_) (fun c_103 => ?_)
                    ·
                      have c_103 : (rs r_26).2.length + (rs r_35).2.length ≤ 240 := (nI_leI (by omega) (by omega)).mp (show (nI ((rs r_26).2.length + (rs r_35).2.length) ≤ nI 240) from c_103)
                      refine lv_iconst (v := 0) hx hb dX3_join_113 (by decide) ?_
                      refine lv_istore (lv' := [(6, .int 0), (5, .int (nI ((rs r_35).2.length))), (4, .int (nI ((rs r_26).2.length))), (0, .ref m), (1, .int (nI tN)), (2, .int (nI aN)), (3, .int (nI bN))]) hx hb dX3_join_114 hl (by decide) rfl (fun ls hl => ?_)
                      refine wd_loop1 (fun (k : Nat) (H : Heap) (locs : List Loc) (ls : Array Slot) => (k ≤ ((rs r_26).2 ++ (rs r_35).2).length) ∧ (∃ w', wd_P D vwCl (wd_A w sg.heap.size) w' H ∧ rW cI m A (fun t => oI (tx t)) (kI kp) (fun r => (rs r).1) (fun r => nI (rs r).2.length) fI kp.length cd pl XD XP XU (itN (fun j f => upd f j (lf ((rs r_26).2 ++ (rs r_35).2) j)) k XO.1, XO.2) XB w') ∧ va_S (wd_A w sg.heap.size) sg.heap H locs ∧ lv_has ls 7 [(0, .ref m), (1, .int (nI tN)), (2, .int (nI aN)), (3, .int (nI bN)), (4, .int (nI ((rs r_26).2.length))), (5, .int (nI ((rs r_35).2.length))), (6, .int (nI k))]) (fun (k : Nat) => ((rs r_26).2 ++ (rs r_35).2).length - k) 0 ⟨(by omega), ⟨_, hW, hR⟩, hS, (lv_sub hl [3, 4, 5, 6, 2, 1, 0] rfl)⟩ (fun k H locs ls hI ih_116 => ?_)
                      obtain ⟨hk, ⟨w_l116, hW, hR⟩, hS, hl⟩ := hI
                      refine lv_iload hx hb dX3_join_116 (lv_at hl 6 rfl) ?_
                      refine lv_iload hx hb dX3_join_118 (lv_at hl 4 rfl) ?_
                      refine lv_iload hx hb dX3_join_120 (lv_at hl 5 rfl) ?_
                      refine lv_iadd hx hb dX3_join_122 ?_
                      refine wd_topE (y := nI ((rs r_26).2.length + (rs r_35).2.length)) (nI_add _ _) ?_
                      refine lv_icmp_ge (tgt := 166) hx hb dX3_join_123 (by decide) (fun c_123 => ?_) (fun c_123 => ?_)
                      ·
                        have c_123 : (rs r_26).2.length + (rs r_35).2.length ≤ k := (nI_leI (by omega) (by omega)).mp (show (nI ((rs r_26).2.length + (rs r_35).2.length) ≤ nI k) from c_123)
                        refine lv_aload_n hx hb dX3_join_166 rfl (lv_at hl 0 rfl) ?_
                        refine lv_iload_n hx hb dX3_join_167 rfl (lv_at hl 1 rfl) ?_
                        refine lv_aload_n hx hb dX3_join_168 rfl (lv_at hl 0 rfl) ?_
                        refine lv_iload_n hx hb dX3_join_169 rfl (lv_at hl 2 rfl) ?_
                        refine wd_callVi (As := [.int (nI aN)]) (rest := [.int (nI tN), .ref m]) (c2 := 0) (s2 := 0) ⟨hx, hb, hml, hown, hts⟩ (k_X3_sortOf l D cI cT w_l116 H.size m A (kI kp) (fun r => nI (rs r).2.length) fI kp.length cd pl XD XP XU (itN (fun j f => upd f j (lf ((rs r_26).2 ++ (rs r_35).2) j)) k XO.1, XO.2) XB tx rs aN hR (by omega) hlv) (cwV 1 hts gX3_join_X3_sortOf rfl rfl rfl (by decide +kernel) ⟨Nat.le_of_ble_eq_true rfl, Nat.le_of_ble_eq_true rfl⟩) gK_ok hK hW (wd_recv (ci := 3) hK.1 hW rfl hR.1) hS hA rfl hl.1 rfl (Nat.le_of_ble_eq_true rfl) dX3_join_170 ⟨Nat.le_of_ble_eq_true rfl, Nat.le_of_ble_eq_true rfl⟩ rfl rfl (fun r_170 w_170 H locs hp_170 hW hz hS => ?_)
                        obtain ⟨q_r, q_w⟩ := hp_170
                        subst r_170
                        subst w_170
                        refine wd_topE (y := (rs r_26).1) (by rw [htx_26]; rfl) ?_
                        refine lv_aload_n hx hb dX3_join_173 rfl (lv_at hl 0 rfl) ?_
                        refine wd_get (ci := 3) (v := .ref (A 8)) (C := RX3) (T := TX3) (N := 18) hx hb hts (by decide +kernel) hown hK.1 hW hR.1 rfl 14 (by decide) (hts (.fieldLink RX3 38 "CharRowsModel" "others" "[I") (by decide +kernel)) (fun _ h9 => h9) rfl dX3_join_174 ?_
                        refine lv_iload hx hb dX3_join_177 (lv_at hl 4 rfl) ?_
                        refine lv_iload hx hb dX3_join_179 (lv_at hl 5 rfl) ?_
                        refine lv_iadd hx hb dX3_join_181 ?_
                        refine wd_topE (y := nI ((rs r_26).2.length + (rs r_35).2.length)) (nI_add _ _) ?_
                        refine wd_callVi (As := [.int (nI tN), .int ((rs r_26).1), .ref (A 8), .int (nI ((rs r_26).2.length + (rs r_35).2.length))]) (rest := []) (c2 := 0) (s2 := 0) ⟨hx, hb, hml, hown, hts⟩ (k_X3_become8 l D cI cT w_l116 H.size m A fI cd pl XD XP XU (itN (fun j f => upd f j (lf ((rs r_26).2 ++ (rs r_35).2) j)) k XO.1, XO.2) XB tx kp rs tN ((rs r_26).1) ((rs r_26).2.length + (rs r_35).2.length) hR (by omega) h10 hkp hlv hk24 hit (by omega)) (cwV 4 hts gX3_join_X3_become rfl rfl rfl (by decide +kernel) ⟨Nat.le_of_ble_eq_true rfl, Nat.le_of_ble_eq_true rfl⟩) gK_ok hK hW (wd_recv (ci := 3) hK.1 hW rfl hR.1) hS hA rfl hl.1 rfl (Nat.le_of_ble_eq_true rfl) dX3_join_182 ⟨Nat.le_of_ble_eq_true rfl, Nat.le_of_ble_eq_true rfl⟩ rfl rfl (fun r_182 w_182 H locs hp_182 hW hz hS => ?_)
                        obtain ⟨q_r, f_182, hit_182, hR⟩ := hp_182
                        subst r_182
                        refine wd_iret hx hb hr hlocks hW hS dX3_join_185 ?_
                        have e9 : s_join (cd, pl, df, tx, kp, rs) (nI tN) (nI aN) (nI bN) = (nI ((rs r_26).2.length + (rs r_35).2.length), 0, pl, df, (va_up tx tN (some (u_free tx kp))), kp, (va_up rs (u_free tx kp) ((rs r_26).1, (rl ((itN (fun j f => upd f j (lf ((rs r_26).2 ++ (rs r_35).2) j)) k XO.1, XO.2).1, (rs r_26).2.length + (rs r_35).2.length))))) := by simp only [s_join, if_neg (not_or.mpr ⟨c_4, (not_or.mpr ⟨c_11, c_18⟩)⟩), s_w2, s_no, s_mk, if_neg (not_not_intro c_58), if_neg (show ¬ (if (rs r_26).1 = 2 then 240 else 60) < (rs r_26).2.length + (rs r_35).2.length from by rw [if_pos c_92]; omega), hcl_t, hcl_a, hcl_b, htx_26, htx_35]; rw [show (rl ((itN (fun j f => upd f j (lf ((rs r_26).2 ++ (rs r_35).2) j)) k XO.1, XO.2).1, (rs r_26).2.length + (rs r_35).2.length)) = (rs r_26).2 ++ (rs r_35).2 from by rw [show k = ((rs r_26).2 ++ (rs r_35).2).length by omega, ← hlj]; exact rl_lay, hlj]; first | done | rfl
                        show _ = (s_join (cd, pl, df, tx, kp, rs) (nI tN) (nI aN) (nI bN)).1 ∧ InvR cI m (s_join (cd, pl, df, tx, kp, rs) (nI tN) (nI aN) (nI bN)).2 _
                        rw [e9]
                        exact ⟨rfl, A, f_182, XD, XP, XU, (itN (fun j f => upd f j (lf ((rs r_26).2 ++ (rs r_35).2) j)) k XO.1, XO.2), XB, hR, hdf, hit_182⟩
                      ·
                        have c_123 : ¬ ((rs r_26).2.length + (rs r_35).2.length ≤ k) := fun q9 => absurd ((nI_leI (by omega) (by omega)).mpr q9) (show ¬ (nI ((rs r_26).2.length + (rs r_35).2.length) ≤ nI k) from c_123)
                        refine lv_aload_n hx hb dX3_join_126 rfl (lv_at hl 0 rfl) ?_
                        refine wd_get (ci := 3) (v := .ref (A 8)) (C := RX3) (T := TX3) (N := 18) hx hb hts (by decide +kernel) hown hK.1 hW hR.1 rfl 14 (by decide) (hts (.fieldLink RX3 38 "CharRowsModel" "others" "[I") (by decide +kernel)) (fun _ h9 => h9) rfl dX3_join_127 ?_
                        refine lv_iload hx hb dX3_join_130 (lv_at hl 6 rfl) ?_
                        refine lv_iload hx hb dX3_join_132 (lv_at hl 6 rfl) ?_
                        refine lv_iload hx hb dX3_join_134 (lv_at hl 4 rfl) ?_
                        refine lv_icmp_ge (tgt := 149) hx hb dX3_join_136 (by decide) (fun c_136 => ?_) (fun c_136 => ?_)
                        ·
                          have c_136 : (rs r_26).2.length ≤ k := (nI_leI (by omega) (by omega)).mp (show (nI ((rs r_26).2.length) ≤ nI k) from c_136)
                          refine lv_aload_n hx hb dX3_join_149 rfl (lv_at hl 0 rfl) ?_
                          refine lv_iload_n hx hb dX3_join_150 rfl (lv_at hl 3 rfl) ?_
                          refine lv_iload hx hb dX3_join_151 (lv_at hl 6 rfl) ?_
                          refine lv_iload hx hb dX3_join_153 (lv_at hl 4 rfl) ?_
                          refine lv_isub hx hb dX3_join_155 ?_
                          refine wd_topE (y := nI (k - (rs r_26).2.length)) (pk_sub (by omega)) ?_
                          refine wd_callVi (As := [.int (nI bN), .int (nI (k - (rs r_26).2.length))]) (rest := [.int (nI k), .ref (A 8)]) (c2 := 0) (s2 := 0) ⟨hx, hb, hml, hown, hts⟩ (k_X3_item l D cI cT w_l116 H.size m A (kI kp) (fun r => (rs r).1) (fun r => nI (rs r).2.length) fI kp.length cd pl XD XP XU (itN (fun j f => upd f j (lf ((rs r_26).2 ++ (rs r_35).2) j)) k XO.1, XO.2) XB tx rs bN r_35 (k - (rs r_26).2.length) hR (by omega) htx_35 hr24_35 hit (by omega)) (cwV 2 hts gX3_join_X3_item rfl rfl rfl (by decide +kernel) ⟨Nat.le_of_ble_eq_true rfl, Nat.le_of_ble_eq_true rfl⟩) gK_ok hK hW (wd_recv (ci := 3) hK.1 hW rfl hR.1) hS hA rfl hl.1 rfl (Nat.le_of_ble_eq_true rfl) dX3_join_156 ⟨Nat.le_of_ble_eq_true rfl, Nat.le_of_ble_eq_true rfl⟩ rfl rfl (fun r_156 w_156 H locs hp_156 hW hz hS => ?_)
                          obtain ⟨q_r, q_w⟩ := hp_156
                          subst r_156
                          subst w_156
                          refine wd_iast hx hb hK.1 hW hS 0 hR.2.2.2.2.2.2.2.2.2.1 rfl (vp_in_nI (by omega) (by omega)) dX3_join_159 (fun H locs hW hS => ?_)
                          rw [nI_clamp (by omega)] at hW
                          obtain ⟨w_v3, hW, hR⟩ : ∃ w', wd_P D vwCl (wd_A w sg.heap.size) w' H ∧ rW cI m A (fun t => oI (tx t)) (kI kp) (fun r => (rs r).1) (fun r => nI (rs r).2.length) fI kp.length cd pl XD XP XU ((upd (itN (fun j f => upd f j (lf ((rs r_26).2 ++ (rs r_35).2) j)) k XO.1) k (lf (rs r_35).2 (k - (rs r_26).2.length))), XO.2) XB w' := ⟨_, hW, hR.aXO (upd (itN (fun j f => upd f j (lf ((rs r_26).2 ++ (rs r_35).2) j)) k XO.1) k (lf (rs r_35).2 (k - (rs r_26).2.length)))⟩
                          refine lv_iinc (v := nI (k + 1)) (lv' := [(6, .int (nI (k + 1))), (0, .ref m), (1, .int (nI tN)), (2, .int (nI aN)), (3, .int (nI bN)), (4, .int (nI ((rs r_26).2.length))), (5, .int (nI ((rs r_35).2.length)))]) hx hb dX3_join_160 hl (k := 6) rfl (nI_add k 1) (by decide) rfl (fun ls hl => ?_)
                          refine lv_goto (tgt := 116) hx hb dX3_join_163 (by decide) ?_
                          exact ih_116 (k + 1) H locs ls ⟨(by omega), ⟨_, hW, (by rw [show itN (fun j f => upd f j (lf ((rs r_26).2 ++ (rs r_35).2) j)) (k + 1) XO.1 = _ from by (show upd _ k (lf _ k) = _; rw [lf_app, if_neg (by omega)])]; exact hR)⟩, hS, (lv_sub hl [1, 2, 3, 4, 5, 6, 0] rfl)⟩ (by omega)
                        ·
                          have c_136 : ¬ ((rs r_26).2.length ≤ k) := fun q9 => absurd ((nI_leI (by omega) (by omega)).mpr q9) (show ¬ (nI ((rs r_26).2.length) ≤ nI k) from c_136)
                          refine lv_aload_n hx hb dX3_join_139 rfl (lv_at hl 0 rfl) ?_
                          refine lv_iload_n hx hb dX3_join_140 rfl (lv_at hl 2 rfl) ?_
                          refine lv_iload hx hb dX3_join_141 (lv_at hl 6 rfl) ?_
                          refine wd_callVi (As := [.int (nI aN), .int (nI k)]) (rest := [.int (nI k), .ref (A 8)]) (c2 := 0) (s2 := 0) ⟨hx, hb, hml, hown, hts⟩ (k_X3_item l D cI cT w_l116 H.size m A (kI kp) (fun r => (rs r).1) (fun r => nI (rs r).2.length) fI kp.length cd pl XD XP XU (itN (fun j f => upd f j (lf ((rs r_26).2 ++ (rs r_35).2) j)) k XO.1, XO.2) XB tx rs aN r_26 k hR (by omega) htx_26 hr24_26 hit (by omega)) (cwV 2 hts gX3_join_X3_item rfl rfl rfl (by decide +kernel) ⟨Nat.le_of_ble_eq_true rfl, Nat.le_of_ble_eq_true rfl⟩) gK_ok hK hW (wd_recv (ci := 3) hK.1 hW rfl hR.1) hS hA rfl hl.1 rfl (Nat.le_of_ble_eq_true rfl) dX3_join_143 ⟨Nat.le_of_ble_eq_true rfl, Nat.le_of_ble_eq_true rfl⟩ rfl rfl (fun r_143 w_143 H locs hp_143 hW hz hS => ?_)
                          obtain ⟨q_r, q_w⟩ := hp_143
                          subst r_143
                          subst w_143
                          refine lv_goto (tgt := 159) hx hb dX3_join_146 (by decide) ?_
                          refine wd_iast hx hb hK.1 hW hS 0 hR.2.2.2.2.2.2.2.2.2.1 rfl (vp_in_nI (by omega) (by omega)) dX3_join_159 (fun H locs hW hS => ?_)
                          rw [nI_clamp (by omega)] at hW
                          obtain ⟨w_v4, hW, hR⟩ : ∃ w', wd_P D vwCl (wd_A w sg.heap.size) w' H ∧ rW cI m A (fun t => oI (tx t)) (kI kp) (fun r => (rs r).1) (fun r => nI (rs r).2.length) fI kp.length cd pl XD XP XU ((upd (itN (fun j f => upd f j (lf ((rs r_26).2 ++ (rs r_35).2) j)) k XO.1) k (lf (rs r_26).2 k)), XO.2) XB w' := ⟨_, hW, hR.aXO (upd (itN (fun j f => upd f j (lf ((rs r_26).2 ++ (rs r_35).2) j)) k XO.1) k (lf (rs r_26).2 k))⟩
                          refine lv_iinc (v := nI (k + 1)) (lv' := [(6, .int (nI (k + 1))), (0, .ref m), (1, .int (nI tN)), (2, .int (nI aN)), (3, .int (nI bN)), (4, .int (nI ((rs r_26).2.length))), (5, .int (nI ((rs r_35).2.length)))]) hx hb dX3_join_160 hl (k := 6) rfl (nI_add k 1) (by decide) rfl (fun ls hl => ?_)
                          refine lv_goto (tgt := 116) hx hb dX3_join_163 (by decide) ?_
                          exact ih_116 (k + 1) H locs ls ⟨(by omega), ⟨_, hW, (by rw [show itN (fun j f => upd f j (lf ((rs r_26).2 ++ (rs r_35).2) j)) (k + 1) XO.1 = _ from by (show upd _ k (lf _ k) = _; rw [lf_app, if_pos (by omega)])]; exact hR)⟩, hS, (lv_sub hl [1, 2, 3, 4, 5, 6, 0] rfl)⟩ (by omega)
                    ·
                      have c_103 : ¬ ((rs r_26).2.length + (rs r_35).2.length ≤ 240) := fun q9 => absurd ((nI_leI (by omega) (by omega)).mpr q9) (show ¬ (nI ((rs r_26).2.length + (rs r_35).2.length) ≤ nI 240) from c_103)
                      refine lv_aload_n hx hb dX3_join_106 rfl (lv_at hl 2 rfl) ?_
                      refine lv_bipush (v := 6) hx hb dX3_join_107 (by decide) ?_
                      refine wd_callVi (As := [.int 6]) (rest := []) (c2 := 0) (s2 := 0) ⟨hx, hb, hml, hown, hts⟩ (k_X3_no l D cI cT w H.size m A (fun t => oI (tx t)) (kI kp) (fun r => (rs r).1) (fun r => nI (rs r).2.length) fI kp.length cd pl XD XP XU XO XB 6 hR) (cwV 1 hts gX3_join_X3_no rfl rfl rfl (by decide +kernel) ⟨Nat.le_of_ble_eq_true rfl, Nat.le_of_ble_eq_true rfl⟩) gK_ok hK hW (wd_recv (ci := 3) hK.1 hW rfl hR.1) hS hA rfl hl.1 rfl (Nat.le_of_ble_eq_true rfl) dX3_join_109 ⟨Nat.le_of_ble_eq_true rfl, Nat.le_of_ble_eq_true rfl⟩ rfl rfl (fun r_109 w_109 H locs hp_109 hW hz hS => ?_)
                      obtain ⟨q_r, hR⟩ := hp_109
                      subst r_109
                      refine wd_iret hx hb hr hlocks hW hS dX3_join_112 ?_
                      have e9 : s_join (cd, pl, df, tx, kp, rs) (nI tN) (nI aN) (nI bN) = (0, 6, pl, df, tx, kp, rs) := by simp only [s_join, if_neg (not_or.mpr ⟨c_4, (not_or.mpr ⟨c_11, c_18⟩)⟩), s_w2, s_no, s_mk, if_neg (not_not_intro c_58), if_pos (show (if (rs r_26).1 = 2 then 240 else 60) < (rs r_26).2.length + (rs r_35).2.length from by rw [if_pos c_92]; omega), hcl_t, hcl_a, hcl_b, htx_26, htx_35]
                      show _ = (s_join (cd, pl, df, tx, kp, rs) (nI tN) (nI aN) (nI bN)).1 ∧ InvR cI m (s_join (cd, pl, df, tx, kp, rs) (nI tN) (nI aN) (nI bN)).2 _
                      rw [e9]
                      exact ⟨rfl, A, fI, XD, XP, XU, XO, XB, hR, hdf, hit⟩
                ·
                  refine lv_aload_n hx hb dX3_join_61 rfl (lv_at hl 0 rfl) ?_
                  refine lv_iconst (v := 2) hx hb dX3_join_62 (by decide) ?_
                  refine wd_callVi (As := [.int 2]) (rest := []) (c2 := 0) (s2 := 0) ⟨hx, hb, hml, hown, hts⟩ (k_X3_no l D cI cT w H.size m A (fun t => oI (tx t)) (kI kp) (fun r => (rs r).1) (fun r => nI (rs r).2.length) fI kp.length cd pl XD XP XU XO XB 2 hR) (cwV 1 hts gX3_join_X3_no rfl rfl rfl (by decide +kernel) ⟨Nat.le_of_ble_eq_true rfl, Nat.le_of_ble_eq_true rfl⟩) gK_ok hK hW (wd_recv (ci := 3) hK.1 hW rfl hR.1) hS hA rfl hl.1 rfl (Nat.le_of_ble_eq_true rfl) dX3_join_63 ⟨Nat.le_of_ble_eq_true rfl, Nat.le_of_ble_eq_true rfl⟩ rfl rfl (fun r_63 w_63 H locs hp_63 hW hz hS => ?_)
                  obtain ⟨q_r, hR⟩ := hp_63
                  subst r_63
                  refine wd_iret hx hb hr hlocks hW hS dX3_join_66 ?_
                  have e9 : s_join (cd, pl, df, tx, kp, rs) (nI tN) (nI aN) (nI bN) = (0, 2, pl, df, tx, kp, rs) := by simp only [s_join, if_neg (not_or.mpr ⟨c_4, (not_or.mpr ⟨c_11, c_18⟩)⟩), s_w2, s_no, s_mk, if_pos c_58, hcl_t, hcl_a, hcl_b, htx_26, htx_35]
                  show _ = (s_join (cd, pl, df, tx, kp, rs) (nI tN) (nI aN) (nI bN)).1 ∧ InvR cI m (s_join (cd, pl, df, tx, kp, rs) (nI tN) (nI aN) (nI bN)).2 _
                  rw [e9]
                  exact ⟨rfl, A, fI, XD, XP, XU, XO, XB, hR, hdf, hit⟩
              ·
                exact absurd c_39 (hok _ _ htx_35).nm1
      ·
        have c_18 := nt_of (j_b0 c_18)
        refine lv_ldc (v := (-2000000001)) hx hb hown (hts (.constant RX3 107 (-2000000001)) (by decide +kernel)) dX3_join_21 ?_
        refine wd_iret hx hb hr hlocks hW hS dX3_join_23 ?_
        have e9 : s_join (cd, pl, df, tx, kp, rs) (nI tN) (nI aN) b = ((-2000000001), cd, pl, df, tx, kp, rs) := by simp only [s_join, if_pos (Or.inr (Or.inr c_18)), s_w2, s_no, s_mk, hcl_t, hcl_a]
        show _ = (s_join (cd, pl, df, tx, kp, rs) (nI tN) (nI aN) b).1 ∧ InvR cI m (s_join (cd, pl, df, tx, kp, rs) (nI tN) (nI aN) b).2 _
        rw [e9]
        exact ⟨rfl, A, fI, XD, XP, XU, XO, XB, hR, hdf, hit⟩
set_option maxHeartbeats 4000000 in
set_option maxRecDepth 100000 in
theorem k_X3_compare (l : Launch) (D : va_G) (cI cT : ClassId) (w : Wd) (sz : Nat) (m : Nat) (cd : Int32) (pl : Int32) (df : List Int32) (tx : Nat → Option Nat) (kp : List Nat) (rs : Rws) (a : Int32) (b : Int32) (way : Int32) (hwf : WF (cd, pl, df, tx, kp, rs)) (hI : InvR cI m (cd, pl, df, tx, kp, rs) w) : wd_Mi l D vwCl (gK D cI cT) yX3_compare wsX3_compare (wd_rm 4 0 0) [.ref m, .int a, .int b, .int way] w sz (fun r w' => r = (s_compare (cd, pl, df, tx, kp, rs) a b way).1 ∧ InvR cI m (s_compare (cd, pl, df, tx, kp, rs) a b way).2 w') := by
  refine wd_met (cc := cX3_compare) (maxL := 5) (ret := (some .int)) (by decide) rfl (Nat.le_of_ble_eq_true rfl) ?_
  intro pg ev sg mi bl mt cde ls C0 hsz hK hW hl
  obtain ⟨hx, hb, hr, hml, hown, hts, hlocks, hnm⟩ := C0
  subst hsz
  have hown : sg.vm.findClass RX3 = some mi.cls := hown
  have hS : va_S (wd_A w sg.heap.size) sg.heap sg.heap [] := va_S.rf
  have hA : ∀ q, sg.heap.size ≤ q → wd_A w sg.heap.size q := fun q h => Or.inr h
  have hl : lv_has ls 5 [(0, .ref m), (1, .int a), (2, .int b), (3, .int way)] := hl
  obtain ⟨A, fI, XD, XP, XU, XO, XB, hR, hdf, hit⟩ := hI
  dsimp only at hR hdf hit
  have h10 : ∀ t, 10 ≤ t → tx t = none := hwf.2.1
  have hkp : kp.length ≤ 12 := hwf.2.2.1
  have hlv : ∀ t r, tx t = some r → r < 24 := fun t r h => (hwf.2.2.2.1 r (Or.inl ⟨t, h⟩)).1
  have hok : ∀ t r, tx t = some r → rOK (rs r) := fun t r h => (hwf.2.2.2.1 r (Or.inl ⟨t, h⟩)).2
  have hk24 : ∀ r ∈ kp, r < 24 := fun r h => (hwf.2.2.2.1 r (Or.inr h)).1
  have hdl : df.length = XD.2 := by rw [← hdf, rl_len]
  have hd60 : df.length ≤ 60 := hwf.1.1
  refine lv_iload_n hx hb dX3_compare_0 rfl (lv_at hl 1 rfl) ?_
  refine wd_callSi (As := [.int a]) (rest := []) (c2 := 0) (s2 := 0) ⟨hx, hb, hml, hown, hts⟩ (k_X3_isText l D cI cT w sg.heap.size a ) (va_cwS 1 hts gX3_compare_X3_isText rfl rfl rfl (by decide +kernel) ⟨Nat.le_of_ble_eq_true rfl, Nat.le_of_ble_eq_true rfl⟩) gK_ok hK hW hS hA rfl hl.1 rfl (Nat.le_of_ble_eq_true rfl) dX3_compare_1 ⟨Nat.le_of_ble_eq_true rfl, Nat.le_of_ble_eq_true rfl⟩ rfl rfl (fun r_1 w_1 H locs hp_1 hW hz hS => ?_)
  obtain ⟨q_r, q_w⟩ := hp_1
  subst r_1
  subst w_1
  refine lv_if_eq (tgt := 23) hx hb dX3_compare_4 (by decide) (fun c_4 => ?_) (fun c_4 => ?_)
  ·
    have c_4 := nt_of (j_b0 c_4)
    refine lv_ldc (v := (-2000000001)) hx hb hown (hts (.constant RX3 107 (-2000000001)) (by decide +kernel)) dX3_compare_23 ?_
    refine wd_iret hx hb hr hlocks hW hS dX3_compare_25 ?_
    have e9 : s_compare (cd, pl, df, tx, kp, rs) a b way = ((-2000000001), cd, pl, df, tx, kp, rs) := by simp only [s_compare, if_pos (Or.inl c_4), s_w2, s_no, s_yes]
    show _ = (s_compare (cd, pl, df, tx, kp, rs) a b way).1 ∧ InvR cI m (s_compare (cd, pl, df, tx, kp, rs) a b way).2 _
    rw [e9]
    exact ⟨rfl, A, fI, XD, XP, XU, XO, XB, hR, hdf, hit⟩
  ·
    have c_4 := j_bn c_4
    obtain ⟨aN, haN, haE⟩ := nt_spec c_4
    subst haE
    have hcl_a : (nI aN).toNatClampNeg = aN := nI_clamp (by omega)
    refine lv_iload_n hx hb dX3_compare_7 rfl (lv_at hl 2 rfl) ?_
    refine wd_callSi (As := [.int b]) (rest := []) (c2 := 0) (s2 := 0) ⟨hx, hb, hml, hown, hts⟩ (k_X3_isText l D cI cT w H.size b ) (va_cwS 1 hts gX3_compare_X3_isText rfl rfl rfl (by decide +kernel) ⟨Nat.le_of_ble_eq_true rfl, Nat.le_of_ble_eq_true rfl⟩) gK_ok hK hW hS hA rfl hl.1 rfl (Nat.le_of_ble_eq_true rfl) dX3_compare_8 ⟨Nat.le_of_ble_eq_true rfl, Nat.le_of_ble_eq_true rfl⟩ rfl rfl (fun r_8 w_8 H locs hp_8 hW hz hS => ?_)
    obtain ⟨q_r, q_w⟩ := hp_8
    subst r_8
    subst w_8
    refine lv_if_eq (tgt := 23) hx hb dX3_compare_11 (by decide) (fun c_11 => ?_) (fun c_11 => ?_)
    ·
      have c_11 := nt_of (j_b0 c_11)
      refine lv_ldc (v := (-2000000001)) hx hb hown (hts (.constant RX3 107 (-2000000001)) (by decide +kernel)) dX3_compare_23 ?_
      refine wd_iret hx hb hr hlocks hW hS dX3_compare_25 ?_
      have e9 : s_compare (cd, pl, df, tx, kp, rs) (nI aN) b way = ((-2000000001), cd, pl, df, tx, kp, rs) := by simp only [s_compare, if_pos (Or.inr (Or.inl c_11)), s_w2, s_no, s_yes, hcl_a]
      show _ = (s_compare (cd, pl, df, tx, kp, rs) (nI aN) b way).1 ∧ InvR cI m (s_compare (cd, pl, df, tx, kp, rs) (nI aN) b way).2 _
      rw [e9]
      exact ⟨rfl, A, fI, XD, XP, XU, XO, XB, hR, hdf, hit⟩
    ·
      have c_11 := j_bn c_11
      obtain ⟨bN, hbN, hbE⟩ := nt_spec c_11
      subst hbE
      have hcl_b : (nI bN).toNatClampNeg = bN := nI_clamp (by omega)
      refine lv_iload_n hx hb dX3_compare_14 rfl (lv_at hl 3 rfl) ?_
      refine lv_iconst (v := 0) hx hb dX3_compare_15 (by decide) ?_
      refine lv_iconst (v := 1) hx hb dX3_compare_16 (by decide) ?_
      refine wd_callSi (As := [.int way, .int 0, .int 1]) (rest := []) (c2 := 0) (s2 := 0) ⟨hx, hb, hml, hown, hts⟩ (k_X3_within l D cI cT w H.size way 0 1 ) (va_cwS 3 hts gX3_compare_X3_within rfl rfl rfl (by decide +kernel) ⟨Nat.le_of_ble_eq_true rfl, Nat.le_of_ble_eq_true rfl⟩) gK_ok hK hW hS hA rfl hl.1 rfl (Nat.le_of_ble_eq_true rfl) dX3_compare_17 ⟨Nat.le_of_ble_eq_true rfl, Nat.le_of_ble_eq_true rfl⟩ rfl rfl (fun r_17 w_17 H locs hp_17 hW hz hS => ?_)
      obtain ⟨q_r, q_w⟩ := hp_17
      subst r_17
      subst w_17
      refine lv_if_ne (tgt := 26) hx hb dX3_compare_20 (by decide) (fun c_20 => ?_) (fun c_20 => ?_)
      ·
        have c_20 := (w_way way).mp (j_bn c_20)
        refine lv_aload_n hx hb dX3_compare_26 rfl (lv_at hl 0 rfl) ?_
        refine lv_iload_n hx hb dX3_compare_27 rfl (lv_at hl 1 rfl) ?_
        refine wd_callVi (As := [.int (nI aN)]) (rest := []) (c2 := 0) (s2 := 0) ⟨hx, hb, hml, hown, hts⟩ (k_X3_sortOf l D cI cT w H.size m A (kI kp) (fun r => nI (rs r).2.length) fI kp.length cd pl XD XP XU XO XB tx rs aN hR (by omega) hlv) (cwV 1 hts gX3_compare_X3_sortOf rfl rfl rfl (by decide +kernel) ⟨Nat.le_of_ble_eq_true rfl, Nat.le_of_ble_eq_true rfl⟩) gK_ok hK hW (wd_recv (ci := 3) hK.1 hW rfl hR.1) hS hA rfl hl.1 rfl (Nat.le_of_ble_eq_true rfl) dX3_compare_28 ⟨Nat.le_of_ble_eq_true rfl, Nat.le_of_ble_eq_true rfl⟩ rfl rfl (fun r_28 w_28 H locs hp_28 hW hz hS => ?_)
        obtain ⟨q_r, q_w⟩ := hp_28
        subst r_28
        subst w_28
        cases htx_28 : tx aN with
        | none =>
          refine wd_topE (y := -1) rfl ?_
          refine lv_iconst (v := (-1)) hx hb dX3_compare_31 (by decide) ?_
          refine lv_icmp_eq (tgt := 44) hx hb dX3_compare_32 (by decide) (fun c_32 => ?_) (fun c_32 => ?_)
          ·
            refine lv_aload_n hx hb dX3_compare_44 rfl (lv_at hl 0 rfl) ?_
            refine lv_iconst (v := 1) hx hb dX3_compare_45 (by decide) ?_
            refine wd_callVi (As := [.int 1]) (rest := []) (c2 := 0) (s2 := 0) ⟨hx, hb, hml, hown, hts⟩ (k_X3_no l D cI cT w H.size m A (fun t => oI (tx t)) (kI kp) (fun r => (rs r).1) (fun r => nI (rs r).2.length) fI kp.length cd pl XD XP XU XO XB 1 hR) (cwV 1 hts gX3_compare_X3_no rfl rfl rfl (by decide +kernel) ⟨Nat.le_of_ble_eq_true rfl, Nat.le_of_ble_eq_true rfl⟩) gK_ok hK hW (wd_recv (ci := 3) hK.1 hW rfl hR.1) hS hA rfl hl.1 rfl (Nat.le_of_ble_eq_true rfl) dX3_compare_46 ⟨Nat.le_of_ble_eq_true rfl, Nat.le_of_ble_eq_true rfl⟩ rfl rfl (fun r_46 w_46 H locs hp_46 hW hz hS => ?_)
            obtain ⟨q_r, hR⟩ := hp_46
            subst r_46
            refine wd_iret hx hb hr hlocks hW hS dX3_compare_49 ?_
            have e9 : s_compare (cd, pl, df, tx, kp, rs) (nI aN) (nI bN) way = (0, 1, pl, df, tx, kp, rs) := by simp only [s_compare, if_neg (not_or.mpr ⟨c_4, (not_or.mpr ⟨c_11, c_20⟩)⟩), s_w2, s_no, s_yes, hcl_a, hcl_b, htx_28]
            show _ = (s_compare (cd, pl, df, tx, kp, rs) (nI aN) (nI bN) way).1 ∧ InvR cI m (s_compare (cd, pl, df, tx, kp, rs) (nI aN) (nI bN) way).2 _
            rw [e9]
            exact ⟨rfl, A, fI, XD, XP, XU, XO, XB, hR, hdf, hit⟩
          ·
            exact absurd rfl c_32
        | some r_28 =>
          refine wd_topE (y := (rs r_28).1) rfl ?_
          have hr24_28 := hlv _ _ htx_28
          refine lv_iconst (v := (-1)) hx hb dX3_compare_31 (by decide) ?_
          refine lv_icmp_eq (tgt := 44) hx hb dX3_compare_32 (by decide) (fun c_32 => ?_) (fun c_32 => ?_)
          ·
            exact absurd c_32 (hok _ _ htx_28).nm1
          ·
            refine lv_aload_n hx hb dX3_compare_35 rfl (lv_at hl 0 rfl) ?_
            refine lv_iload_n hx hb dX3_compare_36 rfl (lv_at hl 2 rfl) ?_
            refine wd_callVi (As := [.int (nI bN)]) (rest := []) (c2 := 0) (s2 := 0) ⟨hx, hb, hml, hown, hts⟩ (k_X3_sortOf l D cI cT w H.size m A (kI kp) (fun r => nI (rs r).2.length) fI kp.length cd pl XD XP XU XO XB tx rs bN hR (by omega) hlv) (cwV 1 hts gX3_compare_X3_sortOf rfl rfl rfl (by decide +kernel) ⟨Nat.le_of_ble_eq_true rfl, Nat.le_of_ble_eq_true rfl⟩) gK_ok hK hW (wd_recv (ci := 3) hK.1 hW rfl hR.1) hS hA rfl hl.1 rfl (Nat.le_of_ble_eq_true rfl) dX3_compare_37 ⟨Nat.le_of_ble_eq_true rfl, Nat.le_of_ble_eq_true rfl⟩ rfl rfl (fun r_37 w_37 H locs hp_37 hW hz hS => ?_)
            obtain ⟨q_r, q_w⟩ := hp_37
            subst r_37
            subst w_37
            cases htx_37 : tx bN with
            | none =>
              refine wd_topE (y := -1) rfl ?_
              refine lv_iconst (v := (-1)) hx hb dX3_compare_40 (by decide) ?_
              refine lv_icmp_ne (tgt := 50) hx hb dX3_compare_41 (by decide) (fun c_41 => ?_) (fun c_41 => ?_)
              ·
                exact absurd rfl c_41
              ·
                refine lv_aload_n hx hb dX3_compare_44 rfl (lv_at hl 0 rfl) ?_
                refine lv_iconst (v := 1) hx hb dX3_compare_45 (by decide) ?_
                refine wd_callVi (As := [.int 1]) (rest := []) (c2 := 0) (s2 := 0) ⟨hx, hb, hml, hown, hts⟩ (k_X3_no l D cI cT w H.size m A (fun t => oI (tx t)) (kI kp) (fun r => (rs r).1) (fun r => nI (rs r).2.length) fI kp.length cd pl XD XP XU XO XB 1 hR) (cwV 1 hts gX3_compare_X3_no rfl rfl rfl (by decide +kernel) ⟨Nat.le_of_ble_eq_true rfl, Nat.le_of_ble_eq_true rfl⟩) gK_ok hK hW (wd_recv (ci := 3) hK.1 hW rfl hR.1) hS hA rfl hl.1 rfl (Nat.le_of_ble_eq_true rfl) dX3_compare_46 ⟨Nat.le_of_ble_eq_true rfl, Nat.le_of_ble_eq_true rfl⟩ rfl rfl (fun r_46 w_46 H locs hp_46 hW hz hS => ?_)
                obtain ⟨q_r, hR⟩ := hp_46
                subst r_46
                refine wd_iret hx hb hr hlocks hW hS dX3_compare_49 ?_
                have e9 : s_compare (cd, pl, df, tx, kp, rs) (nI aN) (nI bN) way = (0, 1, pl, df, tx, kp, rs) := by simp only [s_compare, if_neg (not_or.mpr ⟨c_4, (not_or.mpr ⟨c_11, c_20⟩)⟩), s_w2, s_no, s_yes, hcl_a, hcl_b, htx_28, htx_37]
                show _ = (s_compare (cd, pl, df, tx, kp, rs) (nI aN) (nI bN) way).1 ∧ InvR cI m (s_compare (cd, pl, df, tx, kp, rs) (nI aN) (nI bN) way).2 _
                rw [e9]
                exact ⟨rfl, A, fI, XD, XP, XU, XO, XB, hR, hdf, hit⟩
            | some r_37 =>
              refine wd_topE (y := (rs r_37).1) rfl ?_
              have hr24_37 := hlv _ _ htx_37
              refine lv_iconst (v := (-1)) hx hb dX3_compare_40 (by decide) ?_
              refine lv_icmp_ne (tgt := 50) hx hb dX3_compare_41 (by decide) (fun c_41 => ?_) (fun c_41 => ?_)
              ·
                have hla := (hok _ _ htx_28).len
                have hlb := (hok _ _ htx_37).len
                refine lv_aload_n hx hb dX3_compare_50 rfl (lv_at hl 0 rfl) ?_
                refine lv_iload_n hx hb dX3_compare_51 rfl (lv_at hl 1 rfl) ?_
                refine wd_callVi (As := [.int (nI aN)]) (rest := []) (c2 := 0) (s2 := 0) ⟨hx, hb, hml, hown, hts⟩ (k_X3_sortOf l D cI cT w H.size m A (kI kp) (fun r => nI (rs r).2.length) fI kp.length cd pl XD XP XU XO XB tx rs aN hR (by omega) hlv) (cwV 1 hts gX3_compare_X3_sortOf rfl rfl rfl (by decide +kernel) ⟨Nat.le_of_ble_eq_true rfl, Nat.le_of_ble_eq_true rfl⟩) gK_ok hK hW (wd_recv (ci := 3) hK.1 hW rfl hR.1) hS hA rfl hl.1 rfl (Nat.le_of_ble_eq_true rfl) dX3_compare_52 ⟨Nat.le_of_ble_eq_true rfl, Nat.le_of_ble_eq_true rfl⟩ rfl rfl (fun r_52 w_52 H locs hp_52 hW hz hS => ?_)
                obtain ⟨q_r, q_w⟩ := hp_52
                subst r_52
                subst w_52
                refine wd_topE (y := (rs r_28).1) (by rw [htx_28]; rfl) ?_
                refine lv_iconst (v := 2) hx hb dX3_compare_55 (by decide) ?_
                refine lv_icmp_ne (tgt := 63) hx hb dX3_compare_56 (by decide) (fun c_56 => ?_) (fun c_56 => ?_)
                ·
                  refine lv_iconst (v := 0) hx hb dX3_compare_63 (by decide) ?_
                  refine lv_aload_n hx hb dX3_compare_64 rfl (lv_at hl 0 rfl) ?_
                  refine lv_iload_n hx hb dX3_compare_65 rfl (lv_at hl 2 rfl) ?_
                  refine wd_callVi (As := [.int (nI bN)]) (rest := [.int 0]) (c2 := 0) (s2 := 0) ⟨hx, hb, hml, hown, hts⟩ (k_X3_sortOf l D cI cT w H.size m A (kI kp) (fun r => nI (rs r).2.length) fI kp.length cd pl XD XP XU XO XB tx rs bN hR (by omega) hlv) (cwV 1 hts gX3_compare_X3_sortOf rfl rfl rfl (by decide +kernel) ⟨Nat.le_of_ble_eq_true rfl, Nat.le_of_ble_eq_true rfl⟩) gK_ok hK hW (wd_recv (ci := 3) hK.1 hW rfl hR.1) hS hA rfl hl.1 rfl (Nat.le_of_ble_eq_true rfl) dX3_compare_66 ⟨Nat.le_of_ble_eq_true rfl, Nat.le_of_ble_eq_true rfl⟩ rfl rfl (fun r_66 w_66 H locs hp_66 hW hz hS => ?_)
                  obtain ⟨q_r, q_w⟩ := hp_66
                  subst r_66
                  subst w_66
                  refine wd_topE (y := (rs r_37).1) (by rw [htx_37]; rfl) ?_
                  refine lv_iconst (v := 2) hx hb dX3_compare_69 (by decide) ?_
                  refine lv_icmp_ne (tgt := 77) hx hb dX3_compare_70 (by decide) (fun c_70 => ?_) (fun c_70 => ?_)
                  ·
                    refine lv_iconst (v := 0) hx hb dX3_compare_77 (by decide) ?_
                    refine lv_icmp_eq (tgt := 87) hx hb dX3_compare_78 (by decide) (fun c_78 => ?_) (fun c_78 => ?_)
                    ·
                      refine lv_aload_n hx hb dX3_compare_87 rfl (lv_at hl 0 rfl) ?_
                      refine lv_iload_n hx hb dX3_compare_88 rfl (lv_at hl 1 rfl) ?_
                      refine wd_callVi (As := [.int (nI aN)]) (rest := []) (c2 := 0) (s2 := 0) ⟨hx, hb, hml, hown, hts⟩ (k_X3_sortOf l D cI cT w H.size m A (kI kp) (fun r => nI (rs r).2.length) fI kp.length cd pl XD XP XU XO XB tx rs aN hR (by omega) hlv) (cwV 1 hts gX3_compare_X3_sortOf rfl rfl rfl (by decide +kernel) ⟨Nat.le_of_ble_eq_true rfl, Nat.le_of_ble_eq_true rfl⟩) gK_ok hK hW (wd_recv (ci := 3) hK.1 hW rfl hR.1) hS hA rfl hl.1 rfl (Nat.le_of_ble_eq_true rfl) dX3_compare_89 ⟨Nat.le_of_ble_eq_true rfl, Nat.le_of_ble_eq_true rfl⟩ rfl rfl (fun r_89 w_89 H locs hp_89 hW hz hS => ?_)
                      obtain ⟨q_r, q_w⟩ := hp_89
                      subst r_89
                      subst w_89
                      refine wd_topE (y := (rs r_28).1) (by rw [htx_28]; rfl) ?_
                      refine lv_iconst (v := 2) hx hb dX3_compare_92 (by decide) ?_
                      refine lv_icmp_ne (tgt := 195) hx hb dX3_compare_93 (by decide) (fun c_93 => ?_) (fun c_93 => ?_)
                      ·
                        refine lv_aload_n hx hb dX3_compare_195 rfl (lv_at hl 0 rfl) ?_
                        refine lv_iload_n hx hb dX3_compare_196 rfl (lv_at hl 2 rfl) ?_
                        refine wd_callVv (As := [.int (nI bN)]) (rest := []) (c2 := 0) (s2 := 0) ⟨hx, hb, hml, hown, hts⟩ (k_X3_take l D cI cT w H.size m A (kI kp) fI kp.length cd pl XD XP XU XO XB tx rs bN r_37 hR (by omega) htx_37 hr24_37 hlv hit (hok _ _ htx_37) c_70) (cwV 1 hts gX3_compare_X3_take rfl rfl rfl (by decide +kernel) ⟨Nat.le_of_ble_eq_true rfl, Nat.le_of_ble_eq_true rfl⟩) gK_ok hK hW (wd_recv (ci := 3) hK.1 hW rfl hR.1) hS hA rfl hl.1 rfl (Nat.le_of_ble_eq_true rfl) dX3_compare_197 ⟨Nat.le_of_ble_eq_true rfl, Nat.le_of_ble_eq_true rfl⟩ rfl rfl (fun w_197 H locs hp_197 hW hz hS => ?_)
                        obtain ⟨Y_197, Z_197, hY_197, hZ_197, hR⟩ := hp_197
                        have hYc_197 := rl_cnt hY_197
                        have hZc_197 := rl_cnt hZ_197
                        have hYl_197 := u_pl_len (rs r_37).1 (rs r_37).2
                        have hZl_197 := u_ul_len (rs r_37).1 (rs r_37).2
                        refine lv_aload_n hx hb dX3_compare_200 rfl (lv_at hl 0 rfl) ?_
                        refine lv_iload_n hx hb dX3_compare_201 rfl (lv_at hl 3 rfl) ?_
                        refine lv_if_ne (tgt := 212) hx hb dX3_compare_202 (by decide) (fun c_202 => ?_) (fun c_202 => ?_)
                        ·
                          refine lv_aload_n hx hb dX3_compare_212 rfl (lv_at hl 0 rfl) ?_
                          refine wd_get (ci := 3) (v := .int (nI Y_197.2)) (C := RX3) (T := TX3) (N := 18) hx hb hts (by decide +kernel) hown hK.1 hW hR.1 rfl 11 (by decide) (hts (.fieldLink RX3 74 "CharRowsModel" "pointMany" "I") (by decide +kernel)) (fun _ h9 => h9) rfl dX3_compare_213 ?_
                          refine wd_put (ci := 3) (v := .int (nI Y_197.2)) (ty := .int) (C := RX3) (T := TX3) (N := 18) hx hb hts (by decide +kernel) tyX3 tyX3_ok nmX3 hown hK.1 hW hS hR.1 rfl 15 (by decide) (hts (.fieldLink RX3 149 "CharRowsModel" "otherMany" "I") (by decide +kernel)) (fun _ h9 => h9) rfl (by decide +kernel) rfl rfl (Nat.le_of_ble_eq_true rfl) dX3_compare_216 (fun H locs hW hS => ?_)
                          obtain ⟨w_v1, hW, hR⟩ : ∃ w', wd_P D vwCl (wd_A w sg.heap.size) w' H ∧ rW cI m A (fun t => oI (tx t)) (kI kp) (fun r => (rs r).1) (fun r => nI (rs r).2.length) fI kp.length cd pl XD Y_197 Z_197 (XO.1, Y_197.2) XB w' := ⟨_, hW, hR.cXO Y_197.2⟩
                          refine lv_iconst (v := 0) hx hb dX3_compare_219 (by decide) ?_
                          refine lv_istore (lv' := [(4, .int 0), (0, .ref m), (1, .int (nI aN)), (2, .int (nI bN)), (3, .int way)]) hx hb dX3_compare_220 hl (by decide) rfl (fun ls hl => ?_)
                          refine wd_loop1 (fun (k : Nat) (H : Heap) (locs : List Loc) (ls : Array Slot) => (k ≤ Y_197.2) ∧ (∃ w', wd_P D vwCl (wd_A w sg.heap.size) w' H ∧ rW cI m A (fun t => oI (tx t)) (kI kp) (fun r => (rs r).1) (fun r => nI (rs r).2.length) fI kp.length cd pl XD Y_197 Z_197 (itN (fun j f => upd f j ((fun x => x) (Y_197.1 j))) k XO.1, Y_197.2) XB w') ∧ va_S (wd_A w sg.heap.size) sg.heap H locs ∧ lv_has ls 5 [(0, .ref m), (1, .int (nI aN)), (2, .int (nI bN)), (3, .int way), (4, .int (nI k))]) (fun (k : Nat) => Y_197.2 - k) 0 ⟨(by omega), ⟨_, hW, hR⟩, hS, (lv_sub hl [1, 2, 3, 4, 0] rfl)⟩ (fun k H locs ls hI ih_222 => ?_)
                          obtain ⟨hk, ⟨w_l222, hW, hR⟩, hS, hl⟩ := hI
                          refine lv_iload hx hb dX3_compare_222 (lv_at hl 4 rfl) ?_
                          refine lv_aload_n hx hb dX3_compare_224 rfl (lv_at hl 0 rfl) ?_
                          refine wd_get (ci := 3) (v := .int (nI Y_197.2)) (C := RX3) (T := TX3) (N := 18) hx hb hts (by decide +kernel) hown hK.1 hW hR.1 rfl 15 (by decide) (hts (.fieldLink RX3 149 "CharRowsModel" "otherMany" "I") (by decide +kernel)) (fun _ h9 => h9) rfl dX3_compare_225 ?_
                          refine lv_icmp_ge (tgt := 265) hx hb dX3_compare_228 (by decide) (fun c_228 => ?_) (fun c_228 => ?_)
                          ·
                            have c_228 : Y_197.2 ≤ k := (nI_leI (by omega) (by omega)).mp (show (nI Y_197.2 ≤ nI k) from c_228)
                            have hO : rl (itN (fun j f => upd f j ((fun x => x) (Y_197.1 j))) k XO.1, Y_197.2) = rl Y_197 := by rw [show k = Y_197.2 by omega, rl_layX (φ := fun x => x), List.map_id']
                            have hOc := rl_cnt hO
                            rw [rl_len] at hOc
                            generalize ((itN (fun j f => upd f j ((fun x => x) (Y_197.1 j))) k XO.1, Y_197.2) : Rw) = XO2 at hR hO hOc
                            refine lv_aload_n hx hb dX3_compare_265 rfl (lv_at hl 0 rfl) ?_
                            refine lv_iload_n hx hb dX3_compare_266 rfl (lv_at hl 1 rfl) ?_
                            refine wd_callVv (As := [.int (nI aN)]) (rest := []) (c2 := 0) (s2 := 0) ⟨hx, hb, hml, hown, hts⟩ (k_X3_take l D cI cT w_l222 H.size m A (kI kp) fI kp.length cd pl XD Y_197 Z_197 XO2 XB tx rs aN r_28 hR (by omega) htx_28 hr24_28 hlv hit (hok _ _ htx_28) c_56) (cwV 1 hts gX3_compare_X3_take rfl rfl rfl (by decide +kernel) ⟨Nat.le_of_ble_eq_true rfl, Nat.le_of_ble_eq_true rfl⟩) gK_ok hK hW (wd_recv (ci := 3) hK.1 hW rfl hR.1) hS hA rfl hl.1 rfl (Nat.le_of_ble_eq_true rfl) dX3_compare_267 ⟨Nat.le_of_ble_eq_true rfl, Nat.le_of_ble_eq_true rfl⟩ rfl rfl (fun w_267 H locs hp_267 hW hz hS => ?_)
                            obtain ⟨Y_267, Z_267, hY_267, hZ_267, hR⟩ := hp_267
                            have hYc_267 := rl_cnt hY_267
                            have hZc_267 := rl_cnt hZ_267
                            have hYl_267 := u_pl_len (rs r_28).1 (rs r_28).2
                            have hZl_267 := u_ul_len (rs r_28).1 (rs r_28).2
                            refine lv_aload_n hx hb dX3_compare_270 rfl (lv_at hl 0 rfl) ?_
                            refine lv_iload_n hx hb dX3_compare_271 rfl (lv_at hl 3 rfl) ?_
                            refine lv_if_ne (tgt := 290) hx hb dX3_compare_272 (by decide) (fun c_272 => ?_) (fun c_272 => ?_)
                            ·
                              refine lv_aload_n hx hb dX3_compare_290 rfl (lv_at hl 0 rfl) ?_
                              refine lv_aload_n hx hb dX3_compare_291 rfl (lv_at hl 0 rfl) ?_
                              refine wd_get (ci := 3) (v := .ref (A 6)) (C := RX3) (T := TX3) (N := 18) hx hb hts (by decide +kernel) hown hK.1 hW hR.1 rfl 10 (by decide) (hts (.fieldLink RX3 32 "CharRowsModel" "points" "[I") (by decide +kernel)) (fun _ h9 => h9) rfl dX3_compare_292 ?_
                              refine lv_aload_n hx hb dX3_compare_295 rfl (lv_at hl 0 rfl) ?_
                              refine wd_get (ci := 3) (v := .int (nI Y_267.2)) (C := RX3) (T := TX3) (N := 18) hx hb hts (by decide +kernel) hown hK.1 hW hR.1 rfl 11 (by decide) (hts (.fieldLink RX3 74 "CharRowsModel" "pointMany" "I") (by decide +kernel)) (fun _ h9 => h9) rfl dX3_compare_296 ?_
                              refine wd_callVi (As := [.ref (A 6), .int (nI Y_267.2)]) (rest := [.ref m]) (c2 := 0) (s2 := 0) ⟨hx, hb, hml, hown, hts⟩ (k_X3_against6 l D cI cT w_267 H.size m A (fun t => oI (tx t)) (kI kp) (fun r => (rs r).1) (fun r => nI (rs r).2.length) fI kp.length cd pl XD Y_267 Z_267 XO2 XB Y_267.2 hR (by omega) (by show XO2.2 ≤ 480; omega)) (cwV 2 hts gX3_compare_X3_against rfl rfl rfl (by decide +kernel) ⟨Nat.le_of_ble_eq_true rfl, Nat.le_of_ble_eq_true rfl⟩) gK_ok hK hW (wd_recv (ci := 3) hK.1 hW rfl hR.1) hS hA rfl hl.1 rfl (Nat.le_of_ble_eq_true rfl) dX3_compare_299 ⟨Nat.le_of_ble_eq_true rfl, Nat.le_of_ble_eq_true rfl⟩ rfl rfl (fun r_299 w_299 H locs hp_299 hW hz hS => ?_)
                              obtain ⟨q_r, q_w⟩ := hp_299
                              subst r_299
                              subst w_299
                              refine wd_callVi (As := [.int (u_ord (rl (Y_267.1, Y_267.2)) (rl XO2))]) (rest := []) (c2 := 0) (s2 := 0) ⟨hx, hb, hml, hown, hts⟩ (k_X3_yes l D cI cT w_267 H.size m A (fun t => oI (tx t)) (kI kp) (fun r => (rs r).1) (fun r => nI (rs r).2.length) fI kp.length cd pl XD Y_267 Z_267 XO2 XB (u_ord (rl (Y_267.1, Y_267.2)) (rl XO2)) hR) (cwV 1 hts gX3_compare_X3_yes rfl rfl rfl (by decide +kernel) ⟨Nat.le_of_ble_eq_true rfl, Nat.le_of_ble_eq_true rfl⟩) gK_ok hK hW (wd_recv (ci := 3) hK.1 hW rfl hR.1) hS hA rfl hl.1 rfl (Nat.le_of_ble_eq_true rfl) dX3_compare_302 ⟨Nat.le_of_ble_eq_true rfl, Nat.le_of_ble_eq_true rfl⟩ rfl rfl (fun r_302 w_302 H locs hp_302 hW hz hS => ?_)
                              obtain ⟨q_r, hR⟩ := hp_302
                              subst r_302
                              refine wd_iret hx hb hr hlocks hW hS dX3_compare_305 ?_
                              have e9 : s_compare (cd, pl, df, tx, kp, rs) (nI aN) (nI bN) way = (u_ord (rl (Y_267.1, Y_267.2)) (rl XO2), 0, pl, df, tx, kp, rs) := by simp only [s_compare, if_neg (not_or.mpr ⟨c_4, (not_or.mpr ⟨c_11, c_20⟩)⟩), s_w2, s_no, s_yes, if_neg (show ¬ ¬ ((rs r_28).1 = 2 ↔ (rs r_37).1 = 2) from not_not_intro ⟨fun q => absurd q c_56, fun q => absurd q c_70⟩), if_neg c_202, hcl_a, hcl_b, htx_28, htx_37]; rw [rl_eta, hO, hY_267, hY_197]; first | done | rfl
                              show _ = (s_compare (cd, pl, df, tx, kp, rs) (nI aN) (nI bN) way).1 ∧ InvR cI m (s_compare (cd, pl, df, tx, kp, rs) (nI aN) (nI bN) way).2 _
                              rw [e9]
                              exact ⟨rfl, A, fI, XD, Y_267, Z_267, XO2, XB, hR, hdf, hit⟩
                            ·
                              exact absurd c_272 c_202
                          ·
                            have c_228 : ¬ (Y_197.2 ≤ k) := fun q9 => absurd ((nI_leI (by omega) (by omega)).mpr q9) (show ¬ (nI Y_197.2 ≤ nI k) from c_228)
                            refine lv_aload_n hx hb dX3_compare_231 rfl (lv_at hl 0 rfl) ?_
                            refine wd_get (ci := 3) (v := .ref (A 8)) (C := RX3) (T := TX3) (N := 18) hx hb hts (by decide +kernel) hown hK.1 hW hR.1 rfl 14 (by decide) (hts (.fieldLink RX3 38 "CharRowsModel" "others" "[I") (by decide +kernel)) (fun _ h9 => h9) rfl dX3_compare_232 ?_
                            refine lv_iload hx hb dX3_compare_235 (lv_at hl 4 rfl) ?_
                            refine lv_iload_n hx hb dX3_compare_237 rfl (lv_at hl 3 rfl) ?_
                            refine lv_if_ne (tgt := 251) hx hb dX3_compare_238 (by decide) (fun c_238 => ?_) (fun c_238 => ?_)
                            ·
                              refine lv_aload_n hx hb dX3_compare_251 rfl (lv_at hl 0 rfl) ?_
                              refine wd_get (ci := 3) (v := .ref (A 6)) (C := RX3) (T := TX3) (N := 18) hx hb hts (by decide +kernel) hown hK.1 hW hR.1 rfl 10 (by decide) (hts (.fieldLink RX3 32 "CharRowsModel" "points" "[I") (by decide +kernel)) (fun _ h9 => h9) rfl dX3_compare_252 ?_
                              refine lv_iload hx hb dX3_compare_255 (lv_at hl 4 rfl) ?_
                              refine wd_iald hx hb hK.1 hW 0 hR.2.2.2.2.2.2.2.1 rfl (vp_in_nI (by omega) (by omega)) dX3_compare_257 ?_
                              refine wd_topE (y := Y_197.1 k) (by rw [nI_clamp (by omega)]) ?_
                              refine wd_iast hx hb hK.1 hW hS 0 hR.2.2.2.2.2.2.2.2.2.1 rfl (vp_in_nI (by omega) (by omega)) dX3_compare_258 (fun H locs hW hS => ?_)
                              rw [nI_clamp (by omega)] at hW
                              obtain ⟨w_v2, hW, hR⟩ : ∃ w', wd_P D vwCl (wd_A w sg.heap.size) w' H ∧ rW cI m A (fun t => oI (tx t)) (kI kp) (fun r => (rs r).1) (fun r => nI (rs r).2.length) fI kp.length cd pl XD Y_197 Z_197 ((upd (itN (fun j f => upd f j ((fun x => x) (Y_197.1 j))) k XO.1) k (Y_197.1 k)), Y_197.2) XB w' := ⟨_, hW, hR.aXO (upd (itN (fun j f => upd f j ((fun x => x) (Y_197.1 j))) k XO.1) k (Y_197.1 k))⟩
                              refine lv_iinc (v := nI (k + 1)) (lv' := [(4, .int (nI (k + 1))), (0, .ref m), (1, .int (nI aN)), (2, .int (nI bN)), (3, .int way)]) hx hb dX3_compare_259 hl (k := 4) rfl (nI_add k 1) (by decide) rfl (fun ls hl => ?_)
                              refine lv_goto (tgt := 222) hx hb dX3_compare_262 (by decide) ?_
                              exact ih_222 (k + 1) H locs ls ⟨(by omega), ⟨_, hW, hR⟩, hS, (lv_sub hl [1, 2, 3, 4, 0] rfl)⟩ (by omega)
                            ·
                              exact absurd c_238 c_202
                        ·
                          refine lv_aload_n hx hb dX3_compare_205 rfl (lv_at hl 0 rfl) ?_
                          refine wd_get (ci := 3) (v := .int (nI Z_197.2)) (C := RX3) (T := TX3) (N := 18) hx hb hts (by decide +kernel) hown hK.1 hW hR.1 rfl 13 (by decide) (hts (.fieldLink RX3 71 "CharRowsModel" "unitMany" "I") (by decide +kernel)) (fun _ h9 => h9) rfl dX3_compare_206 ?_
                          refine lv_goto (tgt := 216) hx hb dX3_compare_209 (by decide) ?_
                          refine wd_put (ci := 3) (v := .int (nI Z_197.2)) (ty := .int) (C := RX3) (T := TX3) (N := 18) hx hb hts (by decide +kernel) tyX3 tyX3_ok nmX3 hown hK.1 hW hS hR.1 rfl 15 (by decide) (hts (.fieldLink RX3 149 "CharRowsModel" "otherMany" "I") (by decide +kernel)) (fun _ h9 => h9) rfl (by decide +kernel) rfl rfl (Nat.le_of_ble_eq_true rfl) dX3_compare_216 (fun H locs hW hS => ?_)
                          obtain ⟨w_v3, hW, hR⟩ : ∃ w', wd_P D vwCl (wd_A w sg.heap.size) w' H ∧ rW cI m A (fun t => oI (tx t)) (kI kp) (fun r => (rs r).1) (fun r => nI (rs r).2.length) fI kp.length cd pl XD Y_197 Z_197 (XO.1, Z_197.2) XB w' := ⟨_, hW, hR.cXO Z_197.2⟩
                          refine lv_iconst (v := 0) hx hb dX3_compare_219 (by decide) ?_
                          refine lv_istore (lv' := [(4, .int 0), (0, .ref m), (1, .int (nI aN)), (2, .int (nI bN)), (3, .int way)]) hx hb dX3_compare_220 hl (by decide) rfl (fun ls hl => ?_)
                          refine wd_loop1 (fun (k : Nat) (H : Heap) (locs : List Loc) (ls : Array Slot) => (k ≤ Z_197.2) ∧ (∃ w', wd_P D vwCl (wd_A w sg.heap.size) w' H ∧ rW cI m A (fun t => oI (tx t)) (kI kp) (fun r => (rs r).1) (fun r => nI (rs r).2.length) fI kp.length cd pl XD Y_197 Z_197 (itN (fun j f => upd f j ((fun x => x) (Z_197.1 j))) k XO.1, Z_197.2) XB w') ∧ va_S (wd_A w sg.heap.size) sg.heap H locs ∧ lv_has ls 5 [(0, .ref m), (1, .int (nI aN)), (2, .int (nI bN)), (3, .int way), (4, .int (nI k))]) (fun (k : Nat) => Z_197.2 - k) 0 ⟨(by omega), ⟨_, hW, hR⟩, hS, (lv_sub hl [1, 2, 3, 4, 0] rfl)⟩ (fun k H locs ls hI ih_222 => ?_)
                          obtain ⟨hk, ⟨w_l222, hW, hR⟩, hS, hl⟩ := hI
                          refine lv_iload hx hb dX3_compare_222 (lv_at hl 4 rfl) ?_
                          refine lv_aload_n hx hb dX3_compare_224 rfl (lv_at hl 0 rfl) ?_
                          refine wd_get (ci := 3) (v := .int (nI Z_197.2)) (C := RX3) (T := TX3) (N := 18) hx hb hts (by decide +kernel) hown hK.1 hW hR.1 rfl 15 (by decide) (hts (.fieldLink RX3 149 "CharRowsModel" "otherMany" "I") (by decide +kernel)) (fun _ h9 => h9) rfl dX3_compare_225 ?_
                          refine lv_icmp_ge (tgt := 265) hx hb dX3_compare_228 (by decide) (fun c_228 => ?_) (fun c_228 => ?_)
                          ·
                            have c_228 : Z_197.2 ≤ k := (nI_leI (by omega) (by omega)).mp (show (nI Z_197.2 ≤ nI k) from c_228)
                            have hO : rl (itN (fun j f => upd f j ((fun x => x) (Z_197.1 j))) k XO.1, Z_197.2) = rl Z_197 := by rw [show k = Z_197.2 by omega, rl_layX (φ := fun x => x), List.map_id']
                            have hOc := rl_cnt hO
                            rw [rl_len] at hOc
                            generalize ((itN (fun j f => upd f j ((fun x => x) (Z_197.1 j))) k XO.1, Z_197.2) : Rw) = XO2 at hR hO hOc
                            refine lv_aload_n hx hb dX3_compare_265 rfl (lv_at hl 0 rfl) ?_
                            refine lv_iload_n hx hb dX3_compare_266 rfl (lv_at hl 1 rfl) ?_
                            refine wd_callVv (As := [.int (nI aN)]) (rest := []) (c2 := 0) (s2 := 0) ⟨hx, hb, hml, hown, hts⟩ (k_X3_take l D cI cT w_l222 H.size m A (kI kp) fI kp.length cd pl XD Y_197 Z_197 XO2 XB tx rs aN r_28 hR (by omega) htx_28 hr24_28 hlv hit (hok _ _ htx_28) c_56) (cwV 1 hts gX3_compare_X3_take rfl rfl rfl (by decide +kernel) ⟨Nat.le_of_ble_eq_true rfl, Nat.le_of_ble_eq_true rfl⟩) gK_ok hK hW (wd_recv (ci := 3) hK.1 hW rfl hR.1) hS hA rfl hl.1 rfl (Nat.le_of_ble_eq_true rfl) dX3_compare_267 ⟨Nat.le_of_ble_eq_true rfl, Nat.le_of_ble_eq_true rfl⟩ rfl rfl (fun w_267 H locs hp_267 hW hz hS => ?_)
                            obtain ⟨Y_267, Z_267, hY_267, hZ_267, hR⟩ := hp_267
                            have hYc_267 := rl_cnt hY_267
                            have hZc_267 := rl_cnt hZ_267
                            have hYl_267 := u_pl_len (rs r_28).1 (rs r_28).2
                            have hZl_267 := u_ul_len (rs r_28).1 (rs r_28).2
                            refine lv_aload_n hx hb dX3_compare_270 rfl (lv_at hl 0 rfl) ?_
                            refine lv_iload_n hx hb dX3_compare_271 rfl (lv_at hl 3 rfl) ?_
                            refine lv_if_ne (tgt := 290) hx hb dX3_compare_272 (by decide) (fun c_272 => ?_) (fun c_272 => ?_)
                            ·
                              exact absurd c_202 c_272
                            ·
                              refine lv_aload_n hx hb dX3_compare_275 rfl (lv_at hl 0 rfl) ?_
                              refine lv_aload_n hx hb dX3_compare_276 rfl (lv_at hl 0 rfl) ?_
                              refine wd_get (ci := 3) (v := .ref (A 7)) (C := RX3) (T := TX3) (N := 18) hx hb hts (by decide +kernel) hown hK.1 hW hR.1 rfl 12 (by decide) (hts (.fieldLink RX3 35 "CharRowsModel" "units" "[I") (by decide +kernel)) (fun _ h9 => h9) rfl dX3_compare_277 ?_
                              refine lv_aload_n hx hb dX3_compare_280 rfl (lv_at hl 0 rfl) ?_
                              refine wd_get (ci := 3) (v := .int (nI Z_267.2)) (C := RX3) (T := TX3) (N := 18) hx hb hts (by decide +kernel) hown hK.1 hW hR.1 rfl 13 (by decide) (hts (.fieldLink RX3 71 "CharRowsModel" "unitMany" "I") (by decide +kernel)) (fun _ h9 => h9) rfl dX3_compare_281 ?_
                              refine wd_callVi (As := [.ref (A 7), .int (nI Z_267.2)]) (rest := [.ref m]) (c2 := 0) (s2 := 0) ⟨hx, hb, hml, hown, hts⟩ (k_X3_against7 l D cI cT w_267 H.size m A (fun t => oI (tx t)) (kI kp) (fun r => (rs r).1) (fun r => nI (rs r).2.length) fI kp.length cd pl XD Y_267 Z_267 XO2 XB Z_267.2 hR (by omega) (by show XO2.2 ≤ 480; omega)) (cwV 2 hts gX3_compare_X3_against rfl rfl rfl (by decide +kernel) ⟨Nat.le_of_ble_eq_true rfl, Nat.le_of_ble_eq_true rfl⟩) gK_ok hK hW (wd_recv (ci := 3) hK.1 hW rfl hR.1) hS hA rfl hl.1 rfl (Nat.le_of_ble_eq_true rfl) dX3_compare_284 ⟨Nat.le_of_ble_eq_true rfl, Nat.le_of_ble_eq_true rfl⟩ rfl rfl (fun r_284 w_284 H locs hp_284 hW hz hS => ?_)
                              obtain ⟨q_r, q_w⟩ := hp_284
                              subst r_284
                              subst w_284
                              refine lv_goto (tgt := 302) hx hb dX3_compare_287 (by decide) ?_
                              refine wd_callVi (As := [.int (u_ord (rl (Z_267.1, Z_267.2)) (rl XO2))]) (rest := []) (c2 := 0) (s2 := 0) ⟨hx, hb, hml, hown, hts⟩ (k_X3_yes l D cI cT w_267 H.size m A (fun t => oI (tx t)) (kI kp) (fun r => (rs r).1) (fun r => nI (rs r).2.length) fI kp.length cd pl XD Y_267 Z_267 XO2 XB (u_ord (rl (Z_267.1, Z_267.2)) (rl XO2)) hR) (cwV 1 hts gX3_compare_X3_yes rfl rfl rfl (by decide +kernel) ⟨Nat.le_of_ble_eq_true rfl, Nat.le_of_ble_eq_true rfl⟩) gK_ok hK hW (wd_recv (ci := 3) hK.1 hW rfl hR.1) hS hA rfl hl.1 rfl (Nat.le_of_ble_eq_true rfl) dX3_compare_302 ⟨Nat.le_of_ble_eq_true rfl, Nat.le_of_ble_eq_true rfl⟩ rfl rfl (fun r_302 w_302 H locs hp_302 hW hz hS => ?_)
                              obtain ⟨q_r, hR⟩ := hp_302
                              subst r_302
                              refine wd_iret hx hb hr hlocks hW hS dX3_compare_305 ?_
                              have e9 : s_compare (cd, pl, df, tx, kp, rs) (nI aN) (nI bN) way = (u_ord (rl (Z_267.1, Z_267.2)) (rl XO2), 0, pl, df, tx, kp, rs) := by simp only [s_compare, if_neg (not_or.mpr ⟨c_4, (not_or.mpr ⟨c_11, c_20⟩)⟩), s_w2, s_no, s_yes, if_neg (show ¬ ¬ ((rs r_28).1 = 2 ↔ (rs r_37).1 = 2) from not_not_intro ⟨fun q => absurd q c_56, fun q => absurd q c_70⟩), if_pos c_202, hcl_a, hcl_b, htx_28, htx_37]; rw [rl_eta, hO, hZ_267, hZ_197]; first | done | rfl
                              show _ = (s_compare (cd, pl, df, tx, kp, rs) (nI aN) (nI bN) way).1 ∧ InvR cI m (s_compare (cd, pl, df, tx, kp, rs) (nI aN) (nI bN) way).2 _
                              rw [e9]
                              exact ⟨rfl, A, fI, XD, Y_267, Z_267, XO2, XB, hR, hdf, hit⟩
                          ·
                            have c_228 : ¬ (Z_197.2 ≤ k) := fun q9 => absurd ((nI_leI (by omega) (by omega)).mpr q9) (show ¬ (nI Z_197.2 ≤ nI k) from c_228)
                            refine lv_aload_n hx hb dX3_compare_231 rfl (lv_at hl 0 rfl) ?_
                            refine wd_get (ci := 3) (v := .ref (A 8)) (C := RX3) (T := TX3) (N := 18) hx hb hts (by decide +kernel) hown hK.1 hW hR.1 rfl 14 (by decide) (hts (.fieldLink RX3 38 "CharRowsModel" "others" "[I") (by decide +kernel)) (fun _ h9 => h9) rfl dX3_compare_232 ?_
                            refine lv_iload hx hb dX3_compare_235 (lv_at hl 4 rfl) ?_
                            refine lv_iload_n hx hb dX3_compare_237 rfl (lv_at hl 3 rfl) ?_
                            refine lv_if_ne (tgt := 251) hx hb dX3_compare_238 (by decide) (fun c_238 => ?_) (fun c_238 => ?_)
                            ·
                              exact absurd c_202 c_238
                            ·
                              refine lv_aload_n hx hb dX3_compare_241 rfl (lv_at hl 0 rfl) ?_
                              refine wd_get (ci := 3) (v := .ref (A 7)) (C := RX3) (T := TX3) (N := 18) hx hb hts (by decide +kernel) hown hK.1 hW hR.1 rfl 12 (by decide) (hts (.fieldLink RX3 35 "CharRowsModel" "units" "[I") (by decide +kernel)) (fun _ h9 => h9) rfl dX3_compare_242 ?_
                              refine lv_iload hx hb dX3_compare_245 (lv_at hl 4 rfl) ?_
                              refine wd_iald hx hb hK.1 hW 0 hR.2.2.2.2.2.2.2.2.1 rfl (vp_in_nI (by omega) (by omega)) dX3_compare_247 ?_
                              refine wd_topE (y := Z_197.1 k) (by rw [nI_clamp (by omega)]) ?_
                              refine lv_goto (tgt := 258) hx hb dX3_compare_248 (by decide) ?_
                              refine wd_iast hx hb hK.1 hW hS 0 hR.2.2.2.2.2.2.2.2.2.1 rfl (vp_in_nI (by omega) (by omega)) dX3_compare_258 (fun H locs hW hS => ?_)
                              rw [nI_clamp (by omega)] at hW
                              obtain ⟨w_v4, hW, hR⟩ : ∃ w', wd_P D vwCl (wd_A w sg.heap.size) w' H ∧ rW cI m A (fun t => oI (tx t)) (kI kp) (fun r => (rs r).1) (fun r => nI (rs r).2.length) fI kp.length cd pl XD Y_197 Z_197 ((upd (itN (fun j f => upd f j ((fun x => x) (Z_197.1 j))) k XO.1) k (Z_197.1 k)), Z_197.2) XB w' := ⟨_, hW, hR.aXO (upd (itN (fun j f => upd f j ((fun x => x) (Z_197.1 j))) k XO.1) k (Z_197.1 k))⟩
                              refine lv_iinc (v := nI (k + 1)) (lv' := [(4, .int (nI (k + 1))), (0, .ref m), (1, .int (nI aN)), (2, .int (nI bN)), (3, .int way)]) hx hb dX3_compare_259 hl (k := 4) rfl (nI_add k 1) (by decide) rfl (fun ls hl => ?_)
                              refine lv_goto (tgt := 222) hx hb dX3_compare_262 (by decide) ?_
                              exact ih_222 (k + 1) H locs ls ⟨(by omega), ⟨_, hW, hR⟩, hS, (lv_sub hl [1, 2, 3, 4, 0] rfl)⟩ (by omega)
                      ·
                        exact absurd c_93 c_56
                    ·
                      exact absurd rfl c_78
                  ·
                    refine lv_iconst (v := 1) hx hb dX3_compare_73 (by decide) ?_
                    refine lv_goto (tgt := 78) hx hb dX3_compare_74 (by decide) ?_
                    refine lv_icmp_eq (tgt := 87) hx hb dX3_compare_78 (by decide) (fun c_78 => ?_) (fun c_78 => ?_)
                    ·
                      exact absurd c_78 (by decide)
                    ·
                      refine lv_aload_n hx hb dX3_compare_81 rfl (lv_at hl 0 rfl) ?_
                      refine lv_iconst (v := 2) hx hb dX3_compare_82 (by decide) ?_
                      refine wd_callVi (As := [.int 2]) (rest := []) (c2 := 0) (s2 := 0) ⟨hx, hb, hml, hown, hts⟩ (k_X3_no l D cI cT w H.size m A (fun t => oI (tx t)) (kI kp) (fun r => (rs r).1) (fun r => nI (rs r).2.length) fI kp.length cd pl XD XP XU XO XB 2 hR) (cwV 1 hts gX3_compare_X3_no rfl rfl rfl (by decide +kernel) ⟨Nat.le_of_ble_eq_true rfl, Nat.le_of_ble_eq_true rfl⟩) gK_ok hK hW (wd_recv (ci := 3) hK.1 hW rfl hR.1) hS hA rfl hl.1 rfl (Nat.le_of_ble_eq_true rfl) dX3_compare_83 ⟨Nat.le_of_ble_eq_true rfl, Nat.le_of_ble_eq_true rfl⟩ rfl rfl (fun r_83 w_83 H locs hp_83 hW hz hS => ?_)
                      obtain ⟨q_r, hR⟩ := hp_83
                      subst r_83
                      refine wd_iret hx hb hr hlocks hW hS dX3_compare_86 ?_
                      have e9 : s_compare (cd, pl, df, tx, kp, rs) (nI aN) (nI bN) way = (0, 2, pl, df, tx, kp, rs) := by simp only [s_compare, if_neg (not_or.mpr ⟨c_4, (not_or.mpr ⟨c_11, c_20⟩)⟩), s_w2, s_no, s_yes, if_pos (show ¬ ((rs r_28).1 = 2 ↔ (rs r_37).1 = 2) from fun q => c_56 (q.mpr c_70)), hcl_a, hcl_b, htx_28, htx_37]
                      show _ = (s_compare (cd, pl, df, tx, kp, rs) (nI aN) (nI bN) way).1 ∧ InvR cI m (s_compare (cd, pl, df, tx, kp, rs) (nI aN) (nI bN) way).2 _
                      rw [e9]
                      exact ⟨rfl, A, fI, XD, XP, XU, XO, XB, hR, hdf, hit⟩
                ·
                  refine lv_iconst (v := 1) hx hb dX3_compare_59 (by decide) ?_
                  refine lv_goto (tgt := 64) hx hb dX3_compare_60 (by decide) ?_
                  refine lv_aload_n hx hb dX3_compare_64 rfl (lv_at hl 0 rfl) ?_
                  refine lv_iload_n hx hb dX3_compare_65 rfl (lv_at hl 2 rfl) ?_
                  refine wd_callVi (As := [.int (nI bN)]) (rest := [.int 1]) (c2 := 0) (s2 := 0) ⟨hx, hb, hml, hown, hts⟩ (k_X3_sortOf l D cI cT w H.size m A (kI kp) (fun r => nI (rs r).2.length) fI kp.length cd pl XD XP XU XO XB tx rs bN hR (by omega) hlv) (cwV 1 hts gX3_compare_X3_sortOf rfl rfl rfl (by decide +kernel) ⟨Nat.le_of_ble_eq_true rfl, Nat.le_of_ble_eq_true rfl⟩) gK_ok hK hW (wd_recv (ci := 3) hK.1 hW rfl hR.1) hS hA rfl hl.1 rfl (Nat.le_of_ble_eq_true rfl) dX3_compare_66 ⟨Nat.le_of_ble_eq_true rfl, Nat.le_of_ble_eq_true rfl⟩ rfl rfl (fun r_66 w_66 H locs hp_66 hW hz hS => ?_)
                  obtain ⟨q_r, q_w⟩ := hp_66
                  subst r_66
                  subst w_66
                  refine wd_topE (y := (rs r_37).1) (by rw [htx_37]; rfl) ?_
                  refine lv_iconst (v := 2) hx hb dX3_compare_69 (by decide) ?_
                  refine lv_icmp_ne (tgt := 77) hx hb dX3_compare_70 (by decide) (fun c_70 => ?_) (fun c_70 => ?_)
                  ·
                    refine lv_iconst (v := 0) hx hb dX3_compare_77 (by decide) ?_
                    refine lv_icmp_eq (tgt := 87) hx hb dX3_compare_78 (by decide) (fun c_78 => ?_) (fun c_78 => ?_)
                    ·
                      exact absurd c_78 (by decide)
                    ·
                      refine lv_aload_n hx hb dX3_compare_81 rfl (lv_at hl 0 rfl) ?_
                      refine lv_iconst (v := 2) hx hb dX3_compare_82 (by decide) ?_
                      refine wd_callVi (As := [.int 2]) (rest := []) (c2 := 0) (s2 := 0) ⟨hx, hb, hml, hown, hts⟩ (k_X3_no l D cI cT w H.size m A (fun t => oI (tx t)) (kI kp) (fun r => (rs r).1) (fun r => nI (rs r).2.length) fI kp.length cd pl XD XP XU XO XB 2 hR) (cwV 1 hts gX3_compare_X3_no rfl rfl rfl (by decide +kernel) ⟨Nat.le_of_ble_eq_true rfl, Nat.le_of_ble_eq_true rfl⟩) gK_ok hK hW (wd_recv (ci := 3) hK.1 hW rfl hR.1) hS hA rfl hl.1 rfl (Nat.le_of_ble_eq_true rfl) dX3_compare_83 ⟨Nat.le_of_ble_eq_true rfl, Nat.le_of_ble_eq_true rfl⟩ rfl rfl (fun r_83 w_83 H locs hp_83 hW hz hS => ?_)
                      obtain ⟨q_r, hR⟩ := hp_83
                      subst r_83
                      refine wd_iret hx hb hr hlocks hW hS dX3_compare_86 ?_
                      have e9 : s_compare (cd, pl, df, tx, kp, rs) (nI aN) (nI bN) way = (0, 2, pl, df, tx, kp, rs) := by simp only [s_compare, if_neg (not_or.mpr ⟨c_4, (not_or.mpr ⟨c_11, c_20⟩)⟩), s_w2, s_no, s_yes, if_pos (show ¬ ((rs r_28).1 = 2 ↔ (rs r_37).1 = 2) from fun q => c_70 (q.mp c_56)), hcl_a, hcl_b, htx_28, htx_37]
                      show _ = (s_compare (cd, pl, df, tx, kp, rs) (nI aN) (nI bN) way).1 ∧ InvR cI m (s_compare (cd, pl, df, tx, kp, rs) (nI aN) (nI bN) way).2 _
                      rw [e9]
                      exact ⟨rfl, A, fI, XD, XP, XU, XO, XB, hR, hdf, hit⟩
                  ·
                    refine lv_iconst (v := 1) hx hb dX3_compare_73 (by decide) ?_
                    refine lv_goto (tgt := 78) hx hb dX3_compare_74 (by decide) ?_
                    refine lv_icmp_eq (tgt := 87) hx hb dX3_compare_78 (by decide) (fun c_78 => ?_) (fun c_78 => ?_)
                    ·
                      refine lv_aload_n hx hb dX3_compare_87 rfl (lv_at hl 0 rfl) ?_
                      refine lv_iload_n hx hb dX3_compare_88 rfl (lv_at hl 1 rfl) ?_
                      refine wd_callVi (As := [.int (nI aN)]) (rest := []) (c2 := 0) (s2 := 0) ⟨hx, hb, hml, hown, hts⟩ (k_X3_sortOf l D cI cT w H.size m A (kI kp) (fun r => nI (rs r).2.length) fI kp.length cd pl XD XP XU XO XB tx rs aN hR (by omega) hlv) (cwV 1 hts gX3_compare_X3_sortOf rfl rfl rfl (by decide +kernel) ⟨Nat.le_of_ble_eq_true rfl, Nat.le_of_ble_eq_true rfl⟩) gK_ok hK hW (wd_recv (ci := 3) hK.1 hW rfl hR.1) hS hA rfl hl.1 rfl (Nat.le_of_ble_eq_true rfl) dX3_compare_89 ⟨Nat.le_of_ble_eq_true rfl, Nat.le_of_ble_eq_true rfl⟩ rfl rfl (fun r_89 w_89 H locs hp_89 hW hz hS => ?_)
                      obtain ⟨q_r, q_w⟩ := hp_89
                      subst r_89
                      subst w_89
                      refine wd_topE (y := (rs r_28).1) (by rw [htx_28]; rfl) ?_
                      refine lv_iconst (v := 2) hx hb dX3_compare_92 (by decide) ?_
                      refine lv_icmp_ne (tgt := 195) hx hb dX3_compare_93 (by decide) (fun c_93 => ?_) (fun c_93 => ?_)
                      ·
                        exact absurd c_56 c_93
                      ·
                        refine lv_aload_n hx hb dX3_compare_96 rfl (lv_at hl 0 rfl) ?_
                        refine lv_aload_n hx hb dX3_compare_97 rfl (lv_at hl 0 rfl) ?_
                        refine lv_iload_n hx hb dX3_compare_98 rfl (lv_at hl 2 rfl) ?_
                        refine wd_callVi (As := [.int (nI bN)]) (rest := [.ref m]) (c2 := 0) (s2 := 0) ⟨hx, hb, hml, hown, hts⟩ (k_X3_manyOf l D cI cT w H.size m A (kI kp) (fun r => (rs r).1) fI kp.length cd pl XD XP XU XO XB tx rs bN r_37 hR (by omega) htx_37 hr24_37) (cwV 1 hts gX3_compare_X3_manyOf rfl rfl rfl (by decide +kernel) ⟨Nat.le_of_ble_eq_true rfl, Nat.le_of_ble_eq_true rfl⟩) gK_ok hK hW (wd_recv (ci := 3) hK.1 hW rfl hR.1) hS hA rfl hl.1 rfl (Nat.le_of_ble_eq_true rfl) dX3_compare_99 ⟨Nat.le_of_ble_eq_true rfl, Nat.le_of_ble_eq_true rfl⟩ rfl rfl (fun r_99 w_99 H locs hp_99 hW hz hS => ?_)
                        obtain ⟨q_r, q_w⟩ := hp_99
                        subst r_99
                        subst w_99
                        refine wd_put (ci := 3) (v := .int (nI ((rs r_37).2.length))) (ty := .int) (C := RX3) (T := TX3) (N := 18) hx hb hts (by decide +kernel) tyX3 tyX3_ok nmX3 hown hK.1 hW hS hR.1 rfl 15 (by decide) (hts (.fieldLink RX3 149 "CharRowsModel" "otherMany" "I") (by decide +kernel)) (fun _ h9 => h9) rfl (by decide +kernel) rfl rfl (Nat.le_of_ble_eq_true rfl) dX3_compare_102 (fun H locs hW hS => ?_)
                        obtain ⟨w_v5, hW, hR⟩ : ∃ w', wd_P D vwCl (wd_A w sg.heap.size) w' H ∧ rW cI m A (fun t => oI (tx t)) (kI kp) (fun r => (rs r).1) (fun r => nI (rs r).2.length) fI kp.length cd pl XD XP XU (XO.1, (rs r_37).2.length) XB w' := ⟨_, hW, hR.cXO ((rs r_37).2.length)⟩
                        refine lv_iconst (v := 0) hx hb dX3_compare_105 (by decide) ?_
                        refine lv_istore (lv' := [(4, .int 0), (0, .ref m), (1, .int (nI aN)), (2, .int (nI bN)), (3, .int way)]) hx hb dX3_compare_106 hl (by decide) rfl (fun ls hl => ?_)
                        refine wd_loop1 (fun (k : Nat) (H : Heap) (locs : List Loc) (ls : Array Slot) => (k ≤ (rs r_37).2.length) ∧ (∃ w', wd_P D vwCl (wd_A w sg.heap.size) w' H ∧ rW cI m A (fun t => oI (tx t)) (kI kp) (fun r => (rs r).1) (fun r => nI (rs r).2.length) fI kp.length cd pl XD XP XU (itN (fun j f => upd f j (lf (rs r_37).2 j)) k XO.1, (rs r_37).2.length) XB w') ∧ va_S (wd_A w sg.heap.size) sg.heap H locs ∧ lv_has ls 5 [(0, .ref m), (1, .int (nI aN)), (2, .int (nI bN)), (3, .int way), (4, .int (nI k))]) (fun (k : Nat) => (rs r_37).2.length - k) 0 ⟨(by omega), ⟨_, hW, hR⟩, hS, (lv_sub hl [1, 2, 3, 4, 0] rfl)⟩ (fun k H locs ls hI ih_108 => ?_)
                        obtain ⟨hk, ⟨w_l108, hW, hR⟩, hS, hl⟩ := hI
                        refine lv_iload hx hb dX3_compare_108 (lv_at hl 4 rfl) ?_
                        refine lv_aload_n hx hb dX3_compare_110 rfl (lv_at hl 0 rfl) ?_
                        refine wd_get (ci := 3) (v := .int (nI ((rs r_37).2.length))) (C := RX3) (T := TX3) (N := 18) hx hb hts (by decide +kernel) hown hK.1 hW hR.1 rfl 15 (by decide) (hts (.fieldLink RX3 149 "CharRowsModel" "otherMany" "I") (by decide +kernel)) (fun _ h9 => h9) rfl dX3_compare_111 ?_
                        refine lv_icmp_ge (tgt := 137) hx hb dX3_compare_114 (by decide) (fun c_114 => ?_) (fun c_114 => ?_)
                        ·
                          have c_114 : (rs r_37).2.length ≤ k := (nI_leI (by omega) (by omega)).mp (show (nI ((rs r_37).2.length) ≤ nI k) from c_114)
                          have hO : rl (itN (fun j f => upd f j (lf (rs r_37).2 j)) k XO.1, (rs r_37).2.length) = (rs r_37).2 := by rw [show k = (rs r_37).2.length by omega]; exact rl_lay
                          have hOc := rl_cnt hO
                          generalize ((itN (fun j f => upd f j (lf (rs r_37).2 j)) k XO.1, (rs r_37).2.length) : Rw) = XO2 at hR hO hOc
                          refine lv_aload_n hx hb dX3_compare_137 rfl (lv_at hl 0 rfl) ?_
                          refine lv_aload_n hx hb dX3_compare_138 rfl (lv_at hl 0 rfl) ?_
                          refine lv_iload_n hx hb dX3_compare_139 rfl (lv_at hl 1 rfl) ?_
                          refine wd_callVi (As := [.int (nI aN)]) (rest := [.ref m]) (c2 := 0) (s2 := 0) ⟨hx, hb, hml, hown, hts⟩ (k_X3_manyOf l D cI cT w_l108 H.size m A (kI kp) (fun r => (rs r).1) fI kp.length cd pl XD XP XU XO2 XB tx rs aN r_28 hR (by omega) htx_28 hr24_28) (cwV 1 hts gX3_compare_X3_manyOf rfl rfl rfl (by decide +kernel) ⟨Nat.le_of_ble_eq_true rfl, Nat.le_of_ble_eq_true rfl⟩) gK_ok hK hW (wd_recv (ci := 3) hK.1 hW rfl hR.1) hS hA rfl hl.1 rfl (Nat.le_of_ble_eq_true rfl) dX3_compare_140 ⟨Nat.le_of_ble_eq_true rfl, Nat.le_of_ble_eq_true rfl⟩ rfl rfl (fun r_140 w_140 H locs hp_140 hW hz hS => ?_)
                          obtain ⟨q_r, q_w⟩ := hp_140
                          subst r_140
                          subst w_140
                          refine wd_put (ci := 3) (v := .int (nI ((rs r_28).2.length))) (ty := .int) (C := RX3) (T := TX3) (N := 18) hx hb hts (by decide +kernel) tyX3 tyX3_ok nmX3 hown hK.1 hW hS hR.1 rfl 13 (by decide) (hts (.fieldLink RX3 71 "CharRowsModel" "unitMany" "I") (by decide +kernel)) (fun _ h9 => h9) rfl (by decide +kernel) rfl rfl (Nat.le_of_ble_eq_true rfl) dX3_compare_143 (fun H locs hW hS => ?_)
                          obtain ⟨w_v6, hW, hR⟩ : ∃ w', wd_P D vwCl (wd_A w sg.heap.size) w' H ∧ rW cI m A (fun t => oI (tx t)) (kI kp) (fun r => (rs r).1) (fun r => nI (rs r).2.length) fI kp.length cd pl XD XP (XU.1, (rs r_28).2.length) XO2 XB w' := ⟨_, hW, hR.cXU ((rs r_28).2.length)⟩
                          refine lv_iconst (v := 0) hx hb dX3_compare_146 (by decide) ?_
                          refine lv_istore (lv' := [(4, .int 0), (0, .ref m), (1, .int (nI aN)), (2, .int (nI bN)), (3, .int way)]) hx hb dX3_compare_147 hl (by decide) rfl (fun ls hl => ?_)
                          refine wd_loop1 (fun (k : Nat) (H : Heap) (locs : List Loc) (ls : Array Slot) => (k ≤ (rs r_28).2.length) ∧ (∃ w', wd_P D vwCl (wd_A w sg.heap.size) w' H ∧ rW cI m A (fun t => oI (tx t)) (kI kp) (fun r => (rs r).1) (fun r => nI (rs r).2.length) fI kp.length cd pl XD XP (itN (fun j f => upd f j (lf (rs r_28).2 j)) k XU.1, (rs r_28).2.length) XO2 XB w') ∧ va_S (wd_A w sg.heap.size) sg.heap H locs ∧ lv_has ls 5 [(0, .ref m), (1, .int (nI aN)), (2, .int (nI bN)), (3, .int way), (4, .int (nI k))]) (fun (k : Nat) => (rs r_28).2.length - k) 0 ⟨(by omega), ⟨_, hW, hR⟩, hS, (lv_sub hl [1, 2, 3, 4, 0] rfl)⟩ (fun k H locs ls hI ih_149 => ?_)
                          obtain ⟨hk, ⟨w_l149, hW, hR⟩, hS, hl⟩ := hI
                          refine lv_iload hx hb dX3_compare_149 (lv_at hl 4 rfl) ?_
                          refine lv_aload_n hx hb dX3_compare_151 rfl (lv_at hl 0 rfl) ?_
                          refine wd_get (ci := 3) (v := .int (nI ((rs r_28).2.length))) (C := RX3) (T := TX3) (N := 18) hx hb hts (by decide +kernel) hown hK.1 hW hR.1 rfl 13 (by decide) (hts (.fieldLink RX3 71 "CharRowsModel" "unitMany" "I") (by decide +kernel)) (fun _ h9 => h9) rfl dX3_compare_152 ?_
                          refine lv_icmp_ge (tgt := 178) hx hb dX3_compare_155 (by decide) (fun c_155 => ?_) (fun c_155 => ?_)
                          ·
                            have c_155 : (rs r_28).2.length ≤ k := (nI_leI (by omega) (by omega)).mp (show (nI ((rs r_28).2.length) ≤ nI k) from c_155)
                            refine lv_aload_n hx hb dX3_compare_178 rfl (lv_at hl 0 rfl) ?_
                            refine lv_aload_n hx hb dX3_compare_179 rfl (lv_at hl 0 rfl) ?_
                            refine lv_aload_n hx hb dX3_compare_180 rfl (lv_at hl 0 rfl) ?_
                            refine wd_get (ci := 3) (v := .ref (A 7)) (C := RX3) (T := TX3) (N := 18) hx hb hts (by decide +kernel) hown hK.1 hW hR.1 rfl 12 (by decide) (hts (.fieldLink RX3 35 "CharRowsModel" "units" "[I") (by decide +kernel)) (fun _ h9 => h9) rfl dX3_compare_181 ?_
                            refine lv_aload_n hx hb dX3_compare_184 rfl (lv_at hl 0 rfl) ?_
                            refine wd_get (ci := 3) (v := .int (nI ((rs r_28).2.length))) (C := RX3) (T := TX3) (N := 18) hx hb hts (by decide +kernel) hown hK.1 hW hR.1 rfl 13 (by decide) (hts (.fieldLink RX3 71 "CharRowsModel" "unitMany" "I") (by decide +kernel)) (fun _ h9 => h9) rfl dX3_compare_185 ?_
                            refine wd_callVi (As := [.ref (A 7), .int (nI ((rs r_28).2.length))]) (rest := [.ref m]) (c2 := 0) (s2 := 0) ⟨hx, hb, hml, hown, hts⟩ (k_X3_against7 l D cI cT w_l149 H.size m A (fun t => oI (tx t)) (kI kp) (fun r => (rs r).1) (fun r => nI (rs r).2.length) fI kp.length cd pl XD XP (itN (fun j f => upd f j (lf (rs r_28).2 j)) k XU.1, (rs r_28).2.length) XO2 XB ((rs r_28).2.length) hR (by omega) (by show XO2.2 ≤ 480; omega)) (cwV 2 hts gX3_compare_X3_against rfl rfl rfl (by decide +kernel) ⟨Nat.le_of_ble_eq_true rfl, Nat.le_of_ble_eq_true rfl⟩) gK_ok hK hW (wd_recv (ci := 3) hK.1 hW rfl hR.1) hS hA rfl hl.1 rfl (Nat.le_of_ble_eq_true rfl) dX3_compare_188 ⟨Nat.le_of_ble_eq_true rfl, Nat.le_of_ble_eq_true rfl⟩ rfl rfl (fun r_188 w_188 H locs hp_188 hW hz hS => ?_)
                            obtain ⟨q_r, q_w⟩ := hp_188
                            subst r_188
                            subst w_188
                            refine wd_callVi (As := [.int (u_ord (rl ((itN (fun j f => upd f j (lf (rs r_28).2 j)) k XU.1, (rs r_28).2.length).1, (rs r_28).2.length)) (rl XO2))]) (rest := []) (c2 := 0) (s2 := 0) ⟨hx, hb, hml, hown, hts⟩ (k_X3_yes l D cI cT w_l149 H.size m A (fun t => oI (tx t)) (kI kp) (fun r => (rs r).1) (fun r => nI (rs r).2.length) fI kp.length cd pl XD XP (itN (fun j f => upd f j (lf (rs r_28).2 j)) k XU.1, (rs r_28).2.length) XO2 XB (u_ord (rl ((itN (fun j f => upd f j (lf (rs r_28).2 j)) k XU.1, (rs r_28).2.length).1, (rs r_28).2.length)) (rl XO2)) hR) (cwV 1 hts gX3_compare_X3_yes rfl rfl rfl (by decide +kernel) ⟨Nat.le_of_ble_eq_true rfl, Nat.le_of_ble_eq_true rfl⟩) gK_ok hK hW (wd_recv (ci := 3) hK.1 hW rfl hR.1) hS hA rfl hl.1 rfl (Nat.le_of_ble_eq_true rfl) dX3_compare_191 ⟨Nat.le_of_ble_eq_true rfl, Nat.le_of_ble_eq_true rfl⟩ rfl rfl (fun r_191 w_191 H locs hp_191 hW hz hS => ?_)
                            obtain ⟨q_r, hR⟩ := hp_191
                            subst r_191
                            refine wd_iret hx hb hr hlocks hW hS dX3_compare_194 ?_
                            have e9 : s_compare (cd, pl, df, tx, kp, rs) (nI aN) (nI bN) way = (u_ord (rl ((itN (fun j f => upd f j (lf (rs r_28).2 j)) k XU.1, (rs r_28).2.length).1, (rs r_28).2.length)) (rl XO2), 0, pl, df, tx, kp, rs) := by simp only [s_compare, if_neg (not_or.mpr ⟨c_4, (not_or.mpr ⟨c_11, c_20⟩)⟩), s_w2, s_no, s_yes, if_neg (show ¬ ¬ ((rs r_28).1 = 2 ↔ (rs r_37).1 = 2) from not_not_intro ⟨fun _ => c_70, fun _ => c_56⟩), hcl_a, hcl_b, htx_28, htx_37]; rw [hO, show rl ((itN (fun j f => upd f j (lf (rs r_28).2 j)) k XU.1, (rs r_28).2.length).1, (rs r_28).2.length) = (rs r_28).2 from by rw [show k = (rs r_28).2.length by omega]; exact rl_lay]; rw [show u_ul (rs r_28).1 (rs r_28).2 = (rs r_28).2 from by rw [u_ul, if_pos (by rw [c_56]; decide)], show u_ul (rs r_37).1 (rs r_37).2 = (rs r_37).2 from by rw [u_ul, if_pos (by rw [c_70]; decide)], show u_pl (rs r_28).1 (rs r_28).2 = (rs r_28).2 from by rw [u_pl, if_neg (by rw [c_56]; decide)], show u_pl (rs r_37).1 (rs r_37).2 = (rs r_37).2 from by rw [u_pl, if_neg (by rw [c_70]; decide)]]; simp; first | done | rfl
                            show _ = (s_compare (cd, pl, df, tx, kp, rs) (nI aN) (nI bN) way).1 ∧ InvR cI m (s_compare (cd, pl, df, tx, kp, rs) (nI aN) (nI bN) way).2 _
                            rw [e9]
                            exact ⟨rfl, A, fI, XD, XP, (itN (fun j f => upd f j (lf (rs r_28).2 j)) k XU.1, (rs r_28).2.length), XO2, XB, hR, hdf, hit⟩
                          ·
                            have c_155 : ¬ ((rs r_28).2.length ≤ k) := fun q9 => absurd ((nI_leI (by omega) (by omega)).mpr q9) (show ¬ (nI ((rs r_28).2.length) ≤ nI k) from c_155)
                            refine lv_aload_n hx hb dX3_compare_158 rfl (lv_at hl 0 rfl) ?_
                            refine wd_get (ci := 3) (v := .ref (A 7)) (C := RX3) (T := TX3) (N := 18) hx hb hts (by decide +kernel) hown hK.1 hW hR.1 rfl 12 (by decide) (hts (.fieldLink RX3 35 "CharRowsModel" "units" "[I") (by decide +kernel)) (fun _ h9 => h9) rfl dX3_compare_159 ?_
                            refine lv_iload hx hb dX3_compare_162 (lv_at hl 4 rfl) ?_
                            refine lv_aload_n hx hb dX3_compare_164 rfl (lv_at hl 0 rfl) ?_
                            refine lv_iload_n hx hb dX3_compare_165 rfl (lv_at hl 1 rfl) ?_
                            refine lv_iload hx hb dX3_compare_166 (lv_at hl 4 rfl) ?_
                            refine wd_callVi (As := [.int (nI aN), .int (nI k)]) (rest := [.int (nI k), .ref (A 7)]) (c2 := 0) (s2 := 0) ⟨hx, hb, hml, hown, hts⟩ (k_X3_item l D cI cT w_l149 H.size m A (kI kp) (fun r => (rs r).1) (fun r => nI (rs r).2.length) fI kp.length cd pl XD XP (itN (fun j f => upd f j (lf (rs r_28).2 j)) k XU.1, (rs r_28).2.length) XO2 XB tx rs aN r_28 k hR (by omega) htx_28 hr24_28 hit (by omega)) (cwV 2 hts gX3_compare_X3_item rfl rfl rfl (by decide +kernel) ⟨Nat.le_of_ble_eq_true rfl, Nat.le_of_ble_eq_true rfl⟩) gK_ok hK hW (wd_recv (ci := 3) hK.1 hW rfl hR.1) hS hA rfl hl.1 rfl (Nat.le_of_ble_eq_true rfl) dX3_compare_168 ⟨Nat.le_of_ble_eq_true rfl, Nat.le_of_ble_eq_true rfl⟩ rfl rfl (fun r_168 w_168 H locs hp_168 hW hz hS => ?_)
                            obtain ⟨q_r, q_w⟩ := hp_168
                            subst r_168
                            subst w_168
                            refine wd_iast hx hb hK.1 hW hS 0 hR.2.2.2.2.2.2.2.2.1 rfl (vp_in_nI (by omega) (by omega)) dX3_compare_171 (fun H locs hW hS => ?_)
                            rw [nI_clamp (by omega)] at hW
                            obtain ⟨w_v7, hW, hR⟩ : ∃ w', wd_P D vwCl (wd_A w sg.heap.size) w' H ∧ rW cI m A (fun t => oI (tx t)) (kI kp) (fun r => (rs r).1) (fun r => nI (rs r).2.length) fI kp.length cd pl XD XP ((upd (itN (fun j f => upd f j (lf (rs r_28).2 j)) k XU.1) k (lf (rs r_28).2 k)), (rs r_28).2.length) XO2 XB w' := ⟨_, hW, hR.aXU (upd (itN (fun j f => upd f j (lf (rs r_28).2 j)) k XU.1) k (lf (rs r_28).2 k))⟩
                            refine lv_iinc (v := nI (k + 1)) (lv' := [(4, .int (nI (k + 1))), (0, .ref m), (1, .int (nI aN)), (2, .int (nI bN)), (3, .int way)]) hx hb dX3_compare_172 hl (k := 4) rfl (nI_add k 1) (by decide) rfl (fun ls hl => ?_)
                            refine lv_goto (tgt := 149) hx hb dX3_compare_175 (by decide) ?_
                            exact ih_149 (k + 1) H locs ls ⟨(by omega), ⟨_, hW, hR⟩, hS, (lv_sub hl [1, 2, 3, 4, 0] rfl)⟩ (by omega)
                        ·
                          have c_114 : ¬ ((rs r_37).2.length ≤ k) := fun q9 => absurd ((nI_leI (by omega) (by omega)).mpr q9) (show ¬ (nI ((rs r_37).2.length) ≤ nI k) from c_114)
                          refine lv_aload_n hx hb dX3_compare_117 rfl (lv_at hl 0 rfl) ?_
                          refine wd_get (ci := 3) (v := .ref (A 8)) (C := RX3) (T := TX3) (N := 18) hx hb hts (by decide +kernel) hown hK.1 hW hR.1 rfl 14 (by decide) (hts (.fieldLink RX3 38 "CharRowsModel" "others" "[I") (by decide +kernel)) (fun _ h9 => h9) rfl dX3_compare_118 ?_
                          refine lv_iload hx hb dX3_compare_121 (lv_at hl 4 rfl) ?_
                          refine lv_aload_n hx hb dX3_compare_123 rfl (lv_at hl 0 rfl) ?_
                          refine lv_iload_n hx hb dX3_compare_124 rfl (lv_at hl 2 rfl) ?_
                          refine lv_iload hx hb dX3_compare_125 (lv_at hl 4 rfl) ?_
                          refine wd_callVi (As := [.int (nI bN), .int (nI k)]) (rest := [.int (nI k), .ref (A 8)]) (c2 := 0) (s2 := 0) ⟨hx, hb, hml, hown, hts⟩ (k_X3_item l D cI cT w_l108 H.size m A (kI kp) (fun r => (rs r).1) (fun r => nI (rs r).2.length) fI kp.length cd pl XD XP XU (itN (fun j f => upd f j (lf (rs r_37).2 j)) k XO.1, (rs r_37).2.length) XB tx rs bN r_37 k hR (by omega) htx_37 hr24_37 hit (by omega)) (cwV 2 hts gX3_compare_X3_item rfl rfl rfl (by decide +kernel) ⟨Nat.le_of_ble_eq_true rfl, Nat.le_of_ble_eq_true rfl⟩) gK_ok hK hW (wd_recv (ci := 3) hK.1 hW rfl hR.1) hS hA rfl hl.1 rfl (Nat.le_of_ble_eq_true rfl) dX3_compare_127 ⟨Nat.le_of_ble_eq_true rfl, Nat.le_of_ble_eq_true rfl⟩ rfl rfl (fun r_127 w_127 H locs hp_127 hW hz hS => ?_)
                          obtain ⟨q_r, q_w⟩ := hp_127
                          subst r_127
                          subst w_127
                          refine wd_iast hx hb hK.1 hW hS 0 hR.2.2.2.2.2.2.2.2.2.1 rfl (vp_in_nI (by omega) (by omega)) dX3_compare_130 (fun H locs hW hS => ?_)
                          rw [nI_clamp (by omega)] at hW
                          obtain ⟨w_v8, hW, hR⟩ : ∃ w', wd_P D vwCl (wd_A w sg.heap.size) w' H ∧ rW cI m A (fun t => oI (tx t)) (kI kp) (fun r => (rs r).1) (fun r => nI (rs r).2.length) fI kp.length cd pl XD XP XU ((upd (itN (fun j f => upd f j (lf (rs r_37).2 j)) k XO.1) k (lf (rs r_37).2 k)), (rs r_37).2.length) XB w' := ⟨_, hW, hR.aXO (upd (itN (fun j f => upd f j (lf (rs r_37).2 j)) k XO.1) k (lf (rs r_37).2 k))⟩
                          refine lv_iinc (v := nI (k + 1)) (lv' := [(4, .int (nI (k + 1))), (0, .ref m), (1, .int (nI aN)), (2, .int (nI bN)), (3, .int way)]) hx hb dX3_compare_131 hl (k := 4) rfl (nI_add k 1) (by decide) rfl (fun ls hl => ?_)
                          refine lv_goto (tgt := 108) hx hb dX3_compare_134 (by decide) ?_
                          exact ih_108 (k + 1) H locs ls ⟨(by omega), ⟨_, hW, hR⟩, hS, (lv_sub hl [1, 2, 3, 4, 0] rfl)⟩ (by omega)
                    ·
                      exact absurd rfl c_78
              ·
                exact absurd c_41 (hok _ _ htx_37).nm1
      ·
        have c_20 := w_no (w_way way) (j_b0 c_20)
        refine lv_ldc (v := (-2000000001)) hx hb hown (hts (.constant RX3 107 (-2000000001)) (by decide +kernel)) dX3_compare_23 ?_
        refine wd_iret hx hb hr hlocks hW hS dX3_compare_25 ?_
        have e9 : s_compare (cd, pl, df, tx, kp, rs) (nI aN) (nI bN) way = ((-2000000001), cd, pl, df, tx, kp, rs) := by simp only [s_compare, if_pos (Or.inr (Or.inr c_20)), s_w2, s_no, s_yes, hcl_a, hcl_b]
        show _ = (s_compare (cd, pl, df, tx, kp, rs) (nI aN) (nI bN) way).1 ∧ InvR cI m (s_compare (cd, pl, df, tx, kp, rs) (nI aN) (nI bN) way).2 _
        rw [e9]
        exact ⟨rfl, A, fI, XD, XP, XU, XO, XB, hR, hdf, hit⟩
