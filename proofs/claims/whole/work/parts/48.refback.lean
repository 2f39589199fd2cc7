set_option maxHeartbeats 4000000 in
set_option maxRecDepth 100000 in
theorem k_X3_back (l : Launch) (D : va_G) (cI cT : ClassId) (w : Wd) (sz : Nat) (m : Nat) (cd : Int32) (pl : Int32) (df : List Int32) (tx : Nat → Option Nat) (kp : List Nat) (rs : Rws) (t : Int32) (u : Int32) (hwf : WF (cd, pl, df, tx, kp, rs)) (hI : InvR cI m (cd, pl, df, tx, kp, rs) w) : wd_Mi l D vwCl (gK D cI cT) yX3_back wsX3_back (wd_rm 3 0 0) [.ref m, .int t, .int u] w sz (fun r w' => r = (s_back (cd, pl, df, tx, kp, rs) t u).1 ∧ InvR cI m (s_back (cd, pl, df, tx, kp, rs) t u).2 w') := by
  refine wd_met (cc := cX3_back) (maxL := 7) (ret := (some .int)) (by decide) rfl (Nat.le_of_ble_eq_true rfl) ?_
  intro pg ev sg mi bl mt cde ls C0 hsz hK hW hl
  obtain ⟨hx, hb, hr, hml, hown, hts, hlocks, hnm⟩ := C0
  subst hsz
  have hown : sg.vm.findClass RX3 = some mi.cls := hown
  have hS : va_S (wd_A w sg.heap.size) sg.heap sg.heap [] := va_S.rf
  have hA : ∀ q, sg.heap.size ≤ q → wd_A w sg.heap.size q := fun q h => Or.inr h
  have hl : lv_has ls 7 [(0, .ref m), (1, .int t), (2, .int u)] := hl
  obtain ⟨A, fI, XD, XP, XU, XO, XB, hR, hdf, hit⟩ := hI
  dsimp only at hR hdf hit
  have h10 : ∀ t, 10 ≤ t → tx t = none := hwf.2.1
  have hkp : kp.length ≤ 12 := hwf.2.2.1
  have hlv : ∀ t r, tx t = some r → r < 24 := fun t r h => (hwf.2.2.2.1 r (Or.inl ⟨t, h⟩)).1
  have hok : ∀ t r, tx t = some r → rOK (rs r) := fun t r h => (hwf.2.2.2.1 r (Or.inl ⟨t, h⟩)).2
  have hk24 : ∀ r ∈ kp, r < 24 := fun r h => (hwf.2.2.2.1 r (Or.inr h)).1
  have hdl : df.length = XD.2 := by rw [← hdf, rl_len]
  have hd60 : df.length ≤ 60 := hwf.1.1
  refine lv_iload_n hx hb dX3_back_0 rfl (lv_at hl 1 rfl) ?_
  refine wd_callSi (As := [.int t]) (rest := []) (c2 := 0) (s2 := 0) ⟨hx, hb, hml, hown, hts⟩ (k_X3_isText l D cI cT w sg.heap.size t ) (va_cwS 1 hts gX3_back_X3_isText rfl rfl rfl (by decide +kernel) ⟨Nat.le_of_ble_eq_true rfl, Nat.le_of_ble_eq_true rfl⟩) gK_ok hK hW hS hA rfl hl.1 rfl (Nat.le_of_ble_eq_true rfl) dX3_back_1 ⟨Nat.le_of_ble_eq_true rfl, Nat.le_of_ble_eq_true rfl⟩ rfl rfl (fun r_1 w_1 H locs hp_1 hW hz hS => ?_)
  obtain ⟨q_r, q_w⟩ := hp_1
  subst r_1
  subst w_1
  refine lv_if_eq (tgt := 14) hx hb dX3_back_4 (by decide) (fun c_4 => ?_) (fun c_4 => ?_)
  ·
    have c_4 := nt_of (j_b0 c_4)
    refine lv_ldc (v := (-2000000001)) hx hb hown (hts (.constant RX3 107 (-2000000001)) (by decide +kernel)) dX3_back_14 ?_
    refine wd_iret hx hb hr hlocks hW hS dX3_back_16 ?_
    have e9 : s_back (cd, pl, df, tx, kp, rs) t u = ((-2000000001), cd, pl, df, tx, kp, rs) := by simp only [s_back, if_pos (Or.inl c_4), s_w1, s_no, s_mk]
    show _ = (s_back (cd, pl, df, tx, kp, rs) t u).1 ∧ InvR cI m (s_back (cd, pl, df, tx, kp, rs) t u).2 _
    rw [e9]
    exact ⟨rfl, A, fI, XD, XP, XU, XO, XB, hR, hdf, hit⟩
  ·
    have c_4 := j_bn c_4
    obtain ⟨tN, htN, htE⟩ := nt_spec c_4
    subst htE
    have hcl_t : (nI tN).toNatClampNeg = tN := nI_clamp (by omega)
    refine lv_iload_n hx hb dX3_back_7 rfl (lv_at hl 2 rfl) ?_
    refine wd_callSi (As := [.int u]) (rest := []) (c2 := 0) (s2 := 0) ⟨hx, hb, hml, hown, hts⟩ (k_X3_isText l D cI cT w H.size u ) (va_cwS 1 hts gX3_back_X3_isText rfl rfl rfl (by decide +kernel) ⟨Nat.le_of_ble_eq_true rfl, Nat.le_of_ble_eq_true rfl⟩) gK_ok hK hW hS hA rfl hl.1 rfl (Nat.le_of_ble_eq_true rfl) dX3_back_8 ⟨Nat.le_of_ble_eq_true rfl, Nat.le_of_ble_eq_true rfl⟩ rfl rfl (fun r_8 w_8 H locs hp_8 hW hz hS => ?_)
    obtain ⟨q_r, q_w⟩ := hp_8
    subst r_8
    subst w_8
    refine lv_if_ne (tgt := 17) hx hb dX3_back_11 (by decide) (fun c_11 => ?_) (fun c_11 => ?_)
    ·
      have c_11 := j_bn c_11
      obtain ⟨uN, huN, huE⟩ := nt_spec c_11
      subst huE
      have hcl_u : (nI uN).toNatClampNeg = uN := nI_clamp (by omega)
      refine lv_aload_n hx hb dX3_back_17 rfl (lv_at hl 0 rfl) ?_
      refine lv_iload_n hx hb dX3_back_18 rfl (lv_at hl 2 rfl) ?_
      refine wd_callVi (As := [.int (nI uN)]) (rest := []) (c2 := 0) (s2 := 0) ⟨hx, hb, hml, hown, hts⟩ (k_X3_sortOf l D cI cT w H.size m A (kI kp) (fun r => nI (rs r).2.length) fI kp.length cd pl XD XP XU XO XB tx rs uN hR (by omega) hlv) (cwV 1 hts gX3_back_X3_sortOf rfl rfl rfl (by decide +kernel) ⟨Nat.le_of_ble_eq_true rfl, Nat.le_of_ble_eq_true rfl⟩) gK_ok hK hW (wd_recv (ci := 3) hK.1 hW rfl hR.1) hS hA rfl hl.1 rfl (Nat.le_of_ble_eq_true rfl) dX3_back_19 ⟨Nat.le_of_ble_eq_true rfl, Nat.le_of_ble_eq_true rfl⟩ rfl rfl (fun r_19 w_19 H locs hp_19 hW hz hS => ?_)
      obtain ⟨q_r, q_w⟩ := hp_19
      subst r_19
      subst w_19
      cases htx_19 : tx uN with
      | none =>
        refine wd_topE (y := -1) rfl ?_
        refine lv_istore_n (lv' := [(3, .int (-1)), (0, .ref m), (1, .int (nI tN)), (2, .int (nI uN))]) hx hb dX3_back_22 rfl hl (by decide) rfl (fun ls hl => ?_)
        refine lv_iload_n hx hb dX3_back_23 rfl (lv_at hl 0 rfl) ?_
        refine lv_iconst (v := (-1)) hx hb dX3_back_24 (by decide) ?_
        refine lv_icmp_ne (tgt := 34) hx hb dX3_back_25 (by decide) (fun c_25 => ?_) (fun c_25 => ?_)
        ·
          exact absurd rfl c_25
        ·
          refine lv_aload_n hx hb dX3_back_28 rfl (lv_at hl 1 rfl) ?_
          refine lv_iconst (v := 1) hx hb dX3_back_29 (by decide) ?_
          refine wd_callVi (As := [.int 1]) (rest := []) (c2 := 0) (s2 := 0) ⟨hx, hb, hml, hown, hts⟩ (k_X3_no l D cI cT w H.size m A (fun t => oI (tx t)) (kI kp) (fun r => (rs r).1) (fun r => nI (rs r).2.length) fI kp.length cd pl XD XP XU XO XB 1 hR) (cwV 1 hts gX3_back_X3_no rfl rfl rfl (by decide +kernel) ⟨Nat.le_of_ble_eq_true rfl, Nat.le_of_ble_eq_true rfl⟩) gK_ok hK hW (wd_recv (ci := 3) hK.1 hW rfl hR.1) hS hA rfl hl.1 rfl (Nat.le_of_ble_eq_true rfl) dX3_back_30 ⟨Nat.le_of_ble_eq_true rfl, Nat.le_of_ble_eq_true rfl⟩ rfl rfl (fun r_30 w_30 H locs hp_30 hW hz hS => ?_)
          obtain ⟨q_r, hR⟩ := hp_30
          subst r_30
          refine wd_iret hx hb hr hlocks hW hS dX3_back_33 ?_
          have e9 : s_back (cd, pl, df, tx, kp, rs) (nI tN) (nI uN) = (0, 1, pl, df, tx, kp, rs) := by simp only [s_back, if_neg (not_or.mpr ⟨c_4, c_11⟩), s_w1, s_no, s_mk, hcl_t, hcl_u, htx_19]
          show _ = (s_back (cd, pl, df, tx, kp, rs) (nI tN) (nI uN)).1 ∧ InvR cI m (s_back (cd, pl, df, tx, kp, rs) (nI tN) (nI uN)).2 _
          rw [e9]
          exact ⟨rfl, A, fI, XD, XP, XU, XO, XB, hR, hdf, hit⟩
      | some r_19 =>
        refine wd_topE (y := (rs r_19).1) rfl ?_
        have hr24_19 := hlv _ _ htx_19
        refine lv_istore_n (lv' := [(3, .int ((rs r_19).1)), (0, .ref m), (1, .int (nI tN)), (2, .int (nI uN))]) hx hb dX3_back_22 rfl hl (by decide) rfl (fun ls hl => ?_)
        refine lv_iload_n hx hb dX3_back_23 rfl (lv_at hl 0 rfl) ?_
        refine lv_iconst (v := (-1)) hx hb dX3_back_24 (by decide) ?_
        refine lv_icmp_ne (tgt := 34) hx hb dX3_back_25 (by decide) (fun c_25 => ?_) (fun c_25 => ?_)
        ·
          have hlen := (hok _ _ htx_19).len
          refine lv_aload_n hx hb dX3_back_34 rfl (lv_at hl 1 rfl) ?_
          refine lv_iload_n hx hb dX3_back_35 rfl (lv_at hl 3 rfl) ?_
          refine wd_callVi (As := [.int (nI uN)]) (rest := []) (c2 := 0) (s2 := 0) ⟨hx, hb, hml, hown, hts⟩ (k_X3_manyOf l D cI cT w H.size m A (kI kp) (fun r => (rs r).1) fI kp.length cd pl XD XP XU XO XB tx rs uN r_19 hR (by omega) htx_19 hr24_19) (cwV 1 hts gX3_back_X3_manyOf rfl rfl rfl (by decide +kernel) ⟨Nat.le_of_ble_eq_true rfl, Nat.le_of_ble_eq_true rfl⟩) gK_ok hK hW (wd_recv (ci := 3) hK.1 hW rfl hR.1) hS hA rfl hl.1 rfl (Nat.le_of_ble_eq_true rfl) dX3_back_36 ⟨Nat.le_of_ble_eq_true rfl, Nat.le_of_ble_eq_true rfl⟩ rfl rfl (fun r_36 w_36 H locs hp_36 hW hz hS => ?_)
          obtain ⟨q_r, q_w⟩ := hp_36
          subst r_36
          subst w_36
          refine lv_istore (lv' := [(4, .int (nI ((rs r_19).2.length))), (3, .int ((rs r_19).1)), (0, .ref m), (1, .int (nI tN)), (2, .int (nI uN))]) hx hb dX3_back_39 hl (by decide) rfl (fun ls hl => ?_)
          refine lv_iconst (v := 0) hx hb dX3_back_41 (by decide) ?_
          refine lv_istore (lv' := [(5, .int 0), (4, .int (nI ((rs r_19).2.length))), (3, .int ((rs r_19).1)), (0, .ref m), (1, .int (nI tN)), (2, .int (nI uN))]) hx hb dX3_back_42 hl (by decide) rfl (fun ls hl => ?_)
          refine wd_loop1 (fun (k : Nat) (H : Heap) (locs : List Loc) (ls : Array Slot) => (k ≤ (rs r_19).2.length) ∧ (∃ w', wd_P D vwCl (wd_A w sg.heap.size) w' H ∧ rW cI m A (fun t => oI (tx t)) (kI kp) (fun r => (rs r).1) (fun r => nI (rs r).2.length) fI kp.length cd pl XD XP XU (itN (fun j f => upd f j (lf (rs r_19).2 ((rs r_19).2.length - 1 - j))) k XO.1, XO.2) XB w') ∧ va_S (wd_A w sg.heap.size) sg.heap H locs ∧ lv_has ls 7 [(0, .ref m), (1, .int (nI tN)), (2, .int (nI uN)), (3, .int ((rs r_19).1)), (4, .int (nI ((rs r_19).2.length))), (5, .int (nI k))]) (fun (k : Nat) => (rs r_19).2.length - k) 0 ⟨(by omega), ⟨_, hW, hR⟩, hS, (lv_sub hl [3, 4, 5, 2, 1, 0] rfl)⟩ (fun k H locs ls hI ih_44 => ?_)
          obtain ⟨hk, ⟨w_l44, hW, hR⟩, hS, hl⟩ := hI
          refine lv_iload hx hb dX3_back_44 (lv_at hl 5 rfl) ?_
          refine lv_iload hx hb dX3_back_46 (lv_at hl 4 rfl) ?_
          refine lv_icmp_ge (tgt := 76) hx hb dX3_back_48 (by decide) (fun c_48 => ?_) (fun c_48 => ?_)
          ·
            have c_48 : (rs r_19).2.length ≤ k := (nI_leI (by omega) (by omega)).mp (show (nI ((rs r_19).2.length) ≤ nI k) from c_48)
            have hO : ∀ p, p < (rs r_19).2.length → itN (fun j f => upd f j (lf (rs r_19).2 ((rs r_19).2.length - 1 - j))) k XO.1 p = lf (rs r_19).2 ((rs r_19).2.length - 1 - p) := fun p hp => lay_val k p (by omega)
            generalize itN (fun j f => upd f j (lf (rs r_19).2 ((rs r_19).2.length - 1 - j))) k XO.1 = gO at hR hO
            refine lv_iconst (v := 0) hx hb dX3_back_76 (by decide) ?_
            refine lv_istore (lv' := [(5, .int 0), (0, .ref m), (1, .int (nI tN)), (2, .int (nI uN)), (3, .int ((rs r_19).1)), (4, .int (nI ((rs r_19).2.length)))]) hx hb dX3_back_77 hl (by decide) rfl (fun ls hl => ?_)
            refine wd_loop2 (fun (k : Nat) (G : Nat → Int32) (H : Heap) (locs : List Loc) (ls : Array Slot) => (k ≤ (rs r_19).2.length) ∧ (hb_J (rs r_19).1 (rs r_19).2 k G) ∧ (∃ w', wd_P D vwCl (wd_A w sg.heap.size) w' H ∧ rW cI m A (fun t => oI (tx t)) (kI kp) (fun r => (rs r).1) (fun r => nI (rs r).2.length) fI kp.length cd pl XD XP XU (G, XO.2) XB w') ∧ va_S (wd_A w sg.heap.size) sg.heap H locs ∧ lv_has ls 7 [(0, .ref m), (1, .int (nI tN)), (2, .int (nI uN)), (3, .int ((rs r_19).1)), (4, .int (nI ((rs r_19).2.length))), (5, .int (nI k))]) (fun (k : Nat) (G : Nat → Int32) => (rs r_19).2.length - k) 0 gO ⟨(by omega), (hb_J0 hO), ⟨_, hW, hR⟩, hS, (lv_sub hl [1, 2, 3, 4, 5, 0] rfl)⟩ (fun k G H locs ls hI ih_79 => ?_)
            obtain ⟨hk, hJ, ⟨w_l79, hW, hR⟩, hS, hl⟩ := hI
            refine lv_iload hx hb dX3_back_79 (lv_at hl 5 rfl) ?_
            refine lv_iconst (v := 1) hx hb dX3_back_81 (by decide) ?_
            refine lv_iadd hx hb dX3_back_82 ?_
            refine wd_topE (y := nI (k + 1)) (nI_1 k) ?_
            refine lv_iload hx hb dX3_back_83 (lv_at hl 4 rfl) ?_
            refine lv_icmp_ge (tgt := 147) hx hb dX3_back_85 (by decide) (fun c_85 => ?_) (fun c_85 => ?_)
            ·
              have c_85 : (rs r_19).2.length ≤ k + 1 := (nI_leI (by omega) (by omega)).mp (show (nI ((rs r_19).2.length) ≤ nI (k + 1)) from c_85)
              refine lv_aload_n hx hb dX3_back_147 rfl (lv_at hl 0 rfl) ?_
              refine lv_iload_n hx hb dX3_back_148 rfl (lv_at hl 1 rfl) ?_
              refine lv_iload_n hx hb dX3_back_149 rfl (lv_at hl 3 rfl) ?_
              refine lv_aload_n hx hb dX3_back_150 rfl (lv_at hl 0 rfl) ?_
              refine wd_get (ci := 3) (v := .ref (A 8)) (C := RX3) (T := TX3) (N := 18) hx hb hts (by decide +kernel) hown hK.1 hW hR.1 rfl 14 (by decide) (hts (.fieldLink RX3 38 "CharRowsModel" "others" "[I") (by decide +kernel)) (fun _ h9 => h9) rfl dX3_back_151 ?_
              refine lv_iload hx hb dX3_back_154 (lv_at hl 4 rfl) ?_
              refine wd_callVi (As := [.int (nI tN), .int ((rs r_19).1), .ref (A 8), .int (nI ((rs r_19).2.length))]) (rest := []) (c2 := 0) (s2 := 0) ⟨hx, hb, hml, hown, hts⟩ (k_X3_become8 l D cI cT w_l79 H.size m A fI cd pl XD XP XU (G, XO.2) XB tx kp rs tN ((rs r_19).1) ((rs r_19).2.length) hR (by omega) h10 hkp hlv hk24 hit (by omega)) (cwV 4 hts gX3_back_X3_become rfl rfl rfl (by decide +kernel) ⟨Nat.le_of_ble_eq_true rfl, Nat.le_of_ble_eq_true rfl⟩) gK_ok hK hW (wd_recv (ci := 3) hK.1 hW rfl hR.1) hS hA rfl hl.1 rfl (Nat.le_of_ble_eq_true rfl) dX3_back_156 ⟨Nat.le_of_ble_eq_true rfl, Nat.le_of_ble_eq_true rfl⟩ rfl rfl (fun r_156 w_156 H locs hp_156 hW hz hS => ?_)
              obtain ⟨q_r, f_156, hit_156, hR⟩ := hp_156
              subst r_156
              refine wd_iret hx hb hr hlocks hW hS dX3_back_159 ?_
              have e9 : s_back (cd, pl, df, tx, kp, rs) (nI tN) (nI uN) = (nI ((rs r_19).2.length), 0, pl, df, (va_up tx tN (some (u_free tx kp))), kp, (va_up rs (u_free tx kp) ((rs r_19).1, (rl ((G, XO.2).1, (rs r_19).2.length))))) := by simp only [s_back, if_neg (not_or.mpr ⟨c_4, c_11⟩), s_w1, s_no, s_mk, hcl_t, hcl_u, htx_19]; have hbx : (rl ((G, XO.2).1, (rs r_19).2.length)) = (u_pl (rs r_19).1 (rs r_19).2).reverse.flatMap (fun p => if (rs r_19).1 = 0 then u_units p else [p]) := (by rw [show (rl ((G, XO.2).1, (rs r_19).2.length)) = rl (G, (rs r_19).2.length) from rfl, hb_Jend hJ (by omega) hk, hb_list (fun h0 => by rcases hok _ _ htx_19 with q | q | q; exact q.2.2; exact absurd (q.1.symm.trans h0) (by decide); exact absurd (q.1.symm.trans h0) (by decide))]); rw [← hbx, rl_len]; first | done | rfl
              show _ = (s_back (cd, pl, df, tx, kp, rs) (nI tN) (nI uN)).1 ∧ InvR cI m (s_back (cd, pl, df, tx, kp, rs) (nI tN) (nI uN)).2 _
              rw [e9]
              exact ⟨rfl, A, f_156, XD, XP, XU, (G, XO.2), XB, hR, hdf, hit_156⟩
            ·
              have c_85 : ¬ ((rs r_19).2.length ≤ k + 1) := fun q9 => absurd ((nI_leI (by omega) (by omega)).mpr q9) (show ¬ (nI ((rs r_19).2.length) ≤ nI (k + 1)) from c_85)
              refine lv_iload hx hb dX3_back_88 (lv_at hl 4 rfl) ?_
              refine lv_iconst (v := 2) hx hb dX3_back_90 (by decide) ?_
              refine lv_isub hx hb dX3_back_91 ?_
              refine wd_topE (y := nI ((rs r_19).2.length - 2)) (show nI _ - nI 2 = _ from pk_sub (by omega)) ?_
              refine lv_iload hx hb dX3_back_92 (lv_at hl 5 rfl) ?_
              refine lv_isub hx hb dX3_back_94 ?_
              refine wd_topE (y := nI ((rs r_19).2.length - 2 - k)) (pk_sub (by omega)) ?_
              refine lv_istore (lv' := [(6, .int (nI ((rs r_19).2.length - 2 - k))), (0, .ref m), (1, .int (nI tN)), (2, .int (nI uN)), (3, .int ((rs r_19).1)), (4, .int (nI ((rs r_19).2.length))), (5, .int (nI k))]) hx hb dX3_back_95 hl (by decide) rfl (fun ls hl => ?_)
              refine lv_aload_n hx hb dX3_back_97 rfl (lv_at hl 1 rfl) ?_
              refine lv_iload_n hx hb dX3_back_98 rfl (lv_at hl 3 rfl) ?_
              refine lv_iload hx hb dX3_back_99 (lv_at hl 0 rfl) ?_
              refine lv_iconst (v := 1) hx hb dX3_back_101 (by decide) ?_
              refine lv_iadd hx hb dX3_back_102 ?_
              refine wd_topE (y := nI ((rs r_19).2.length - 1 - k)) (by rw [nI_1, show (rs r_19).2.length - 2 - k + 1 = (rs r_19).2.length - 1 - k by omega]) ?_
              refine wd_callVi (As := [.int (nI uN), .int (nI ((rs r_19).2.length - 1 - k))]) (rest := []) (c2 := 0) (s2 := 0) ⟨hx, hb, hml, hown, hts⟩ (k_X3_parts l D cI cT w_l79 H.size m A (kI kp) fI kp.length cd pl XD XP XU (G, XO.2) XB tx rs uN r_19 ((rs r_19).2.length - 1 - k) hR (by omega) htx_19 hr24_19 hlv hit (by omega)) (cwV 2 hts gX3_back_X3_parts rfl rfl rfl (by decide +kernel) ⟨Nat.le_of_ble_eq_true rfl, Nat.le_of_ble_eq_true rfl⟩) gK_ok hK hW (wd_recv (ci := 3) hK.1 hW rfl hR.1) hS hA rfl hl.1 rfl (Nat.le_of_ble_eq_true rfl) dX3_back_103 ⟨Nat.le_of_ble_eq_true rfl, Nat.le_of_ble_eq_true rfl⟩ rfl rfl (fun r_103 w_103 H locs hp_103 hW hz hS => ?_)
              obtain ⟨q_r, q_w⟩ := hp_103
              subst r_103
              subst w_103
              refine lv_if_eq (tgt := 141) hx hb dX3_back_106 (by decide) (fun c_106 => ?_) (fun c_106 => ?_)
              ·
                have c_106 := j_b0 c_106
                refine lv_iinc (v := nI (k + 1)) (lv' := [(5, .int (nI (k + 1))), (6, .int (nI ((rs r_19).2.length - 2 - k))), (0, .ref m), (1, .int (nI tN)), (2, .int (nI uN)), (3, .int ((rs r_19).1)), (4, .int (nI ((rs r_19).2.length)))]) hx hb dX3_back_141 hl (k := 6) rfl (nI_add k 1) (by decide) rfl (fun ls hl => ?_)
                refine lv_goto (tgt := 79) hx hb dX3_back_144 (by decide) ?_
                exact ih_79 (k + 1) G H locs ls ⟨(by omega), (hb_Jno hJ (by omega) c_106), ⟨_, hW, hR⟩, hS, (lv_sub hl [2, 3, 4, 5, 6, 0] rfl)⟩ (by omega)
              ·
                have c_106 := j_bn c_106
                refine lv_aload_n hx hb dX3_back_109 rfl (lv_at hl 1 rfl) ?_
                refine wd_get (ci := 3) (v := .ref (A 8)) (C := RX3) (T := TX3) (N := 18) hx hb hts (by decide +kernel) hown hK.1 hW hR.1 rfl 14 (by decide) (hts (.fieldLink RX3 38 "CharRowsModel" "others" "[I") (by decide +kernel)) (fun _ h9 => h9) rfl dX3_back_110 ?_
                refine lv_iload hx hb dX3_back_113 (lv_at hl 6 rfl) ?_
                refine lv_aload_n hx hb dX3_back_115 rfl (lv_at hl 1 rfl) ?_
                refine lv_iload_n hx hb dX3_back_116 rfl (lv_at hl 3 rfl) ?_
                refine lv_iload hx hb dX3_back_117 (lv_at hl 0 rfl) ?_
                refine wd_callVi (As := [.int (nI uN), .int (nI ((rs r_19).2.length - 2 - k))]) (rest := [.int (nI k), .ref (A 8)]) (c2 := 0) (s2 := 0) ⟨hx, hb, hml, hown, hts⟩ (k_X3_item l D cI cT w_l79 H.size m A (kI kp) (fun r => (rs r).1) (fun r => nI (rs r).2.length) fI kp.length cd pl XD XP XU (G, XO.2) XB tx rs uN r_19 ((rs r_19).2.length - 2 - k) hR (by omega) htx_19 hr24_19 hit (by omega)) (cwV 2 hts gX3_back_X3_item rfl rfl rfl (by decide +kernel) ⟨Nat.le_of_ble_eq_true rfl, Nat.le_of_ble_eq_true rfl⟩) gK_ok hK hW (wd_recv (ci := 3) hK.1 hW rfl hR.1) hS hA rfl hl.1 rfl (Nat.le_of_ble_eq_true rfl) dX3_back_119 ⟨Nat.le_of_ble_eq_true rfl, Nat.le_of_ble_eq_true rfl⟩ rfl rfl (fun r_119 w_119 H locs hp_119 hW hz hS => ?_)
                obtain ⟨q_r, q_w⟩ := hp_119
                subst r_119
                subst w_119
                refine wd_iast hx hb hK.1 hW hS 0 hR.2.2.2.2.2.2.2.2.2.1 rfl (vp_in_nI (by omega) (by omega)) dX3_back_122 (fun H locs hW hS => ?_)
                rw [nI_clamp (by omega)] at hW
                obtain ⟨w_v1, hW, hR⟩ : ∃ w', wd_P D vwCl (wd_A w sg.heap.size) w' H ∧ rW cI m A (fun t => oI (tx t)) (kI kp) (fun r => (rs r).1) (fun r => nI (rs r).2.length) fI kp.length cd pl XD XP XU ((upd G k (lf (rs r_19).2 ((rs r_19).2.length - 2 - k))), XO.2) XB w' := ⟨_, hW, hR.aXO (upd G k (lf (rs r_19).2 ((rs r_19).2.length - 2 - k)))⟩
                refine lv_aload_n hx hb dX3_back_123 rfl (lv_at hl 1 rfl) ?_
                refine wd_get (ci := 3) (v := .ref (A 8)) (C := RX3) (T := TX3) (N := 18) hx hb hts (by decide +kernel) hown hK.1 hW hR.1 rfl 14 (by decide) (hts (.fieldLink RX3 38 "CharRowsModel" "others" "[I") (by decide +kernel)) (fun _ h9 => h9) rfl dX3_back_124 ?_
                refine lv_iload hx hb dX3_back_127 (lv_at hl 6 rfl) ?_
                refine lv_iconst (v := 1) hx hb dX3_back_129 (by decide) ?_
                refine lv_iadd hx hb dX3_back_130 ?_
                refine wd_topE (y := nI (k + 1)) (nI_1 k) ?_
                refine lv_aload_n hx hb dX3_back_131 rfl (lv_at hl 1 rfl) ?_
                refine lv_iload_n hx hb dX3_back_132 rfl (lv_at hl 3 rfl) ?_
                refine lv_iload hx hb dX3_back_133 (lv_at hl 0 rfl) ?_
                refine lv_iconst (v := 1) hx hb dX3_back_135 (by decide) ?_
                refine lv_iadd hx hb dX3_back_136 ?_
                refine wd_topE (y := nI ((rs r_19).2.length - 1 - k)) (by rw [nI_1, show (rs r_19).2.length - 2 - k + 1 = (rs r_19).2.length - 1 - k by omega]) ?_
                refine wd_callVi (As := [.int (nI uN), .int (nI ((rs r_19).2.length - 1 - k))]) (rest := [.int (nI (k + 1)), .ref (A 8)]) (c2 := 0) (s2 := 0) ⟨hx, hb, hml, hown, hts⟩ (k_X3_item l D cI cT w_v1 H.size m A (kI kp) (fun r => (rs r).1) (fun r => nI (rs r).2.length) fI kp.length cd pl XD XP XU ((upd G k (lf (rs r_19).2 ((rs r_19).2.length - 2 - k))), XO.2) XB tx rs uN r_19 ((rs r_19).2.length - 1 - k) hR (by omega) htx_19 hr24_19 hit (by omega)) (cwV 2 hts gX3_back_X3_item rfl rfl rfl (by decide +kernel) ⟨Nat.le_of_ble_eq_true rfl, Nat.le_of_ble_eq_true rfl⟩) gK_ok hK hW (wd_recv (ci := 3) hK.1 hW rfl hR.1) hS hA rfl hl.1 rfl (Nat.le_of_ble_eq_true rfl) dX3_back_137 ⟨Nat.le_of_ble_eq_true rfl, Nat.le_of_ble_eq_true rfl⟩ rfl rfl (fun r_137 w_137 H locs hp_137 hW hz hS => ?_)
                obtain ⟨q_r, q_w⟩ := hp_137
                subst r_137
                subst w_137
                refine wd_iast hx hb hK.1 hW hS 0 hR.2.2.2.2.2.2.2.2.2.1 rfl (vp_in_nI (by omega) (by omega)) dX3_back_140 (fun H locs hW hS => ?_)
                rw [nI_clamp (by omega)] at hW
                obtain ⟨w_v2, hW, hR⟩ : ∃ w', wd_P D vwCl (wd_A w sg.heap.size) w' H ∧ rW cI m A (fun t => oI (tx t)) (kI kp) (fun r => (rs r).1) (fun r => nI (rs r).2.length) fI kp.length cd pl XD XP XU ((upd (upd G k (lf (rs r_19).2 ((rs r_19).2.length - 2 - k))) (k + 1) (lf (rs r_19).2 ((rs r_19).2.length - 1 - k))), XO.2) XB w' := ⟨_, hW, hR.aXO (upd (upd G k (lf (rs r_19).2 ((rs r_19).2.length - 2 - k))) (k + 1) (lf (rs r_19).2 ((rs r_19).2.length - 1 - k)))⟩
                refine lv_iinc (v := nI (k + 1)) (lv' := [(5, .int (nI (k + 1))), (6, .int (nI ((rs r_19).2.length - 2 - k))), (0, .ref m), (1, .int (nI tN)), (2, .int (nI uN)), (3, .int ((rs r_19).1)), (4, .int (nI ((rs r_19).2.length)))]) hx hb dX3_back_141 hl (k := 6) rfl (nI_add k 1) (by decide) rfl (fun ls hl => ?_)
                refine lv_goto (tgt := 79) hx hb dX3_back_144 (by decide) ?_
                exact ih_79 (k + 1) (upd (upd G k (lf (rs r_19).2 ((rs r_19).2.length - 2 - k))) (k + 1) (lf (rs r_19).2 ((rs r_19).2.length - 1 - k))) H locs ls ⟨(by omega), (hb_Jpair hJ (by omega) c_106), ⟨_, hW, hR⟩, hS, (lv_sub hl [2, 3, 4, 5, 6, 0] rfl)⟩ (by omega)
          ·
            have c_48 : ¬ ((rs r_19).2.length ≤ k) := fun q9 => absurd ((nI_leI (by omega) (by omega)).mpr q9) (show ¬ (nI ((rs r_19).2.length) ≤ nI k) from c_48)
            refine lv_aload_n hx hb dX3_back_51 rfl (lv_at hl 0 rfl) ?_
            refine wd_get (ci := 3) (v := .ref (A 8)) (C := RX3) (T := TX3) (N := 18) hx hb hts (by decide +kernel) hown hK.1 hW hR.1 rfl 14 (by decide) (hts (.fieldLink RX3 38 "CharRowsModel" "others" "[I") (by decide +kernel)) (fun _ h9 => h9) rfl dX3_back_52 ?_
            refine lv_iload hx hb dX3_back_55 (lv_at hl 5 rfl) ?_
            refine lv_aload_n hx hb dX3_back_57 rfl (lv_at hl 0 rfl) ?_
            refine lv_iload_n hx hb dX3_back_58 rfl (lv_at hl 2 rfl) ?_
            refine lv_iload hx hb dX3_back_59 (lv_at hl 4 rfl) ?_
            refine lv_iconst (v := 1) hx hb dX3_back_61 (by decide) ?_
            refine lv_isub hx hb dX3_back_62 ?_
            refine wd_topE (y := nI ((rs r_19).2.length - 1)) (show nI _ - nI 1 = _ from pk_sub (by omega)) ?_
            refine lv_iload hx hb dX3_back_63 (lv_at hl 5 rfl) ?_
            refine lv_isub hx hb dX3_back_65 ?_
            refine wd_topE (y := nI ((rs r_19).2.length - 1 - k)) (pk_sub (by omega)) ?_
            refine wd_callVi (As := [.int (nI uN), .int (nI ((rs r_19).2.length - 1 - k))]) (rest := [.int (nI k), .ref (A 8)]) (c2 := 0) (s2 := 0) ⟨hx, hb, hml, hown, hts⟩ (k_X3_item l D cI cT w_l44 H.size m A (kI kp) (fun r => (rs r).1) (fun r => nI (rs r).2.length) fI kp.length cd pl XD XP XU (itN (fun j f => upd f j (lf (rs r_19).2 ((rs r_19).2.length - 1 - j))) k XO.1, XO.2) XB tx rs uN r_19 ((rs r_19).2.length - 1 - k) hR (by omega) htx_19 hr24_19 hit (by omega)) (cwV 2 hts gX3_back_X3_item rfl rfl rfl (by decide +kernel) ⟨Nat.le_of_ble_eq_true rfl, Nat.le_of_ble_eq_true rfl⟩) gK_ok hK hW (wd_recv (ci := 3) hK.1 hW rfl hR.1) hS hA rfl hl.1 rfl (Nat.le_of_ble_eq_true rfl) dX3_back_66 ⟨Nat.le_of_ble_eq_true rfl, Nat.le_of_ble_eq_true rfl⟩ rfl rfl (fun r_66 w_66 H locs hp_66 hW hz hS => ?_)
            obtain ⟨q_r, q_w⟩ := hp_66
            subst r_66
            subst w_66
            refine wd_iast hx hb hK.1 hW hS 0 hR.2.2.2.2.2.2.2.2.2.1 rfl (vp_in_nI (by omega) (by omega)) dX3_back_69 (fun H locs hW hS => ?_)
            rw [nI_clamp (by omega)] at hW
            obtain ⟨w_v3, hW, hR⟩ : ∃ w', wd_P D vwCl (wd_A w sg.heap.size) w' H ∧ rW cI m A (fun t => oI (tx t)) (kI kp) (fun r => (rs r).1) (fun r => nI (rs r).2.length) fI kp.length cd pl XD XP XU ((upd (itN (fun j f => upd f j (lf (rs r_19).2 ((rs r_19).2.length - 1 - j))) k XO.1) k (lf (rs r_19).2 ((rs r_19).2.length - 1 - k))), XO.2) XB w' := ⟨_, hW, hR.aXO (upd (itN (fun j f => upd f j (lf (rs r_19).2 ((rs r_19).2.length - 1 - j))) k XO.1) k (lf (rs r_19).2 ((rs r_19).2.length - 1 - k)))⟩
            refine lv_iinc (v := nI (k + 1)) (lv' := [(5, .int (nI (k + 1))), (0, .ref m), (1, .int (nI tN)), (2, .int (nI uN)), (3, .int ((rs r_19).1)), (4, .int (nI ((rs r_19).2.length)))]) hx hb dX3_back_70 hl (k := 5) rfl (nI_add k 1) (by decide) rfl (fun ls hl => ?_)
            refine lv_goto (tgt := 44) hx hb dX3_back_73 (by decide) ?_
            exact ih_44 (k + 1) H locs ls ⟨(by omega), ⟨_, hW, hR⟩, hS, (lv_sub hl [1, 2, 3, 4, 5, 0] rfl)⟩ (by omega)
        ·
          exact absurd c_25 (hok _ _ htx_19).nm1
    ·
      have c_11 := nt_of (j_b0 c_11)
      refine lv_ldc (v := (-2000000001)) hx hb hown (hts (.constant RX3 107 (-2000000001)) (by decide +kernel)) dX3_back_14 ?_
      refine wd_iret hx hb hr hlocks hW hS dX3_back_16 ?_
      have e9 : s_back (cd, pl, df, tx, kp, rs) (nI tN) u = ((-2000000001), cd, pl, df, tx, kp, rs) := by simp only [s_back, if_pos (Or.inr c_11), s_w1, s_no, s_mk, hcl_t]
      show _ = (s_back (cd, pl, df, tx, kp, rs) (nI tN) u).1 ∧ InvR cI m (s_back (cd, pl, df, tx, kp, rs) (nI tN) u).2 _
      rw [e9]
      exact ⟨rfl, A, fI, XD, XP, XU, XO, XB, hR, hdf, hit⟩
