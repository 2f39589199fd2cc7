set_option maxHeartbeats 4000000 in
set_option maxRecDepth 100000 in
theorem k_X3_pointFrom (l : Launch) (D : va_G) (cI cT : ClassId) (w : Wd) (sz : Nat) (m : Nat) (A : Nat → Nat) (fK : Nat → Int32) (fI : Nat → Int32) (kc : Nat) (cd : Int32) (pl : Int32) (XD : Rw) (XP : Rw) (XU : Rw) (XO : Rw) (XB : Rw) (tx : Nat → Option Nat) (rs : Rws) (tN : Nat) (r : Nat) (aN : Nat) (nn : Nat) (hR : rW cI m A (fun t => oI (tx t)) fK (fun r => (rs r).1) (fun r => nI (rs r).2.length) fI kc cd pl XD XP XU XO XB w) (htN : tN < 10) (htx : tx tN = some r) (hr24 : r < 24) (hlv : ∀ t r, tx t = some r → r < 24) (hit : rIt rs fI) (haN : aN < (rs r).2.length) (hbc : j_bc (lf (rs r).2 aN) = nI nn) (hnn : nn ≤ 4) : wd_Mi l D vwCl (gK D cI cT) yX3_pointFrom wsX3_pointFrom (wd_rm 2 0 0) [.ref m, .int (nI tN), .int (nI aN), .int (nI nn)] w sz (fun q w' => q = j_pf (lf (rs r).2) (rs r).2.length aN ∧ w' = w) := by
  refine wd_met (cc := cX3_pointFrom) (maxL := 8) (ret := (some .int)) (by decide) rfl (Nat.le_of_ble_eq_true rfl) ?_
  intro pg ev sg mi bl mt cde ls C0 hsz hK hW hl
  obtain ⟨hx, hb, hr, hml, hown, hts, hlocks, hnm⟩ := C0
  subst hsz
  have hown : sg.vm.findClass RX3 = some mi.cls := hown
  have hS : va_S (wd_A w sg.heap.size) sg.heap sg.heap [] := va_S.rf
  have hA : ∀ q, sg.heap.size ≤ q → wd_A w sg.heap.size q := fun q h => Or.inr h
  have hl : lv_has ls 8 [(0, .ref m), (1, .int (nI tN)), (2, .int (nI aN)), (3, .int (nI nn))] := hl
  have hl240 := (hit r hr24).1
  refine lv_iload_n hx hb dX3_pointFrom_0 rfl (lv_at hl 3 rfl) ?_
  refine lv_if_eq (tgt := 15) hx hb dX3_pointFrom_1 (by decide) (fun c_1 => ?_) (fun c_1 => ?_)
  ·
    have c_1 : nn = 0 := (nI_eq (by omega) (by omega)).mp (show (nI nn = nI 0) from c_1)
    refine lv_iconst (v := (-1)) hx hb dX3_pointFrom_15 (by decide) ?_
    refine wd_iret hx hb hr hlocks hW hS dX3_pointFrom_16 ?_
    exact ⟨(pf_out haN (by omega) hnn hbc (Or.inl c_1)).symm, rfl⟩
  ·
    have c_1 : ¬ (nn = 0) := fun q9 => absurd ((nI_eq (by omega) (by omega)).mpr q9) (show ¬ (nI nn = nI 0) from c_1)
    refine lv_iload_n hx hb dX3_pointFrom_4 rfl (lv_at hl 2 rfl) ?_
    refine lv_iload_n hx hb dX3_pointFrom_5 rfl (lv_at hl 3 rfl) ?_
    refine lv_iadd hx hb dX3_pointFrom_6 ?_
    refine wd_topE (y := nI (aN + nn)) (nI_add _ _) ?_
    refine lv_aload_n hx hb dX3_pointFrom_7 rfl (lv_at hl 0 rfl) ?_
    refine lv_iload_n hx hb dX3_pointFrom_8 rfl (lv_at hl 1 rfl) ?_
    refine wd_callVi (As := [.int (nI tN)]) (rest := [.int (nI (aN + nn))]) (c2 := 0) (s2 := 0) ⟨hx, hb, hml, hown, hts⟩ (k_X3_manyOf l D cI cT w sg.heap.size m A fK (fun r => (rs r).1) fI kc cd pl XD XP XU XO XB tx rs tN r hR (by omega) htx hr24) (cwV 1 hts gX3_pointFrom_X3_manyOf rfl rfl rfl (by decide +kernel) ⟨Nat.le_of_ble_eq_true rfl, Nat.le_of_ble_eq_true rfl⟩) gK_ok hK hW (wd_recv (ci := 3) hK.1 hW rfl hR.1) hS hA rfl hl.1 rfl (Nat.le_of_ble_eq_true rfl) dX3_pointFrom_9 ⟨Nat.le_of_ble_eq_true rfl, Nat.le_of_ble_eq_true rfl⟩ rfl rfl (fun r_9 w_9 H locs hp_9 hW hz hS => ?_)
    obtain ⟨q_r, q_w⟩ := hp_9
    subst r_9
    subst w_9
    refine lv_icmp_le (tgt := 17) hx hb dX3_pointFrom_12 (by decide) (fun c_12 => ?_) (fun c_12 => ?_)
    ·
      have c_12 : aN + nn ≤ (rs r).2.length := (nI_leI (by omega) (by omega)).mp (show (nI (aN + nn) ≤ nI ((rs r).2.length)) from c_12)
      refine lv_aload_n hx hb dX3_pointFrom_17 rfl (lv_at hl 0 rfl) ?_
      refine lv_iload_n hx hb dX3_pointFrom_18 rfl (lv_at hl 1 rfl) ?_
      refine lv_iload_n hx hb dX3_pointFrom_19 rfl (lv_at hl 2 rfl) ?_
      refine wd_callVi (As := [.int (nI tN), .int (nI aN)]) (rest := []) (c2 := 0) (s2 := 0) ⟨hx, hb, hml, hown, hts⟩ (k_X3_item l D cI cT w H.size m A fK (fun r => (rs r).1) (fun r => nI (rs r).2.length) fI kc cd pl XD XP XU XO XB tx rs tN r aN hR (by omega) htx hr24 hit (by omega)) (cwV 2 hts gX3_pointFrom_X3_item rfl rfl rfl (by decide +kernel) ⟨Nat.le_of_ble_eq_true rfl, Nat.le_of_ble_eq_true rfl⟩) gK_ok hK hW (wd_recv (ci := 3) hK.1 hW rfl hR.1) hS hA rfl hl.1 rfl (Nat.le_of_ble_eq_true rfl) dX3_pointFrom_20 ⟨Nat.le_of_ble_eq_true rfl, Nat.le_of_ble_eq_true rfl⟩ rfl rfl (fun r_20 w_20 H locs hp_20 hW hz hS => ?_)
      obtain ⟨q_r, q_w⟩ := hp_20
      subst r_20
      subst w_20
      refine lv_istore (lv' := [(4, .int (lf (rs r).2 aN)), (0, .ref m), (1, .int (nI tN)), (2, .int (nI aN)), (3, .int (nI nn))]) hx hb dX3_pointFrom_23 hl (by decide) rfl (fun ls hl => ?_)
      refine lv_iload_n hx hb dX3_pointFrom_25 rfl (lv_at hl 4 rfl) ?_
      refine lv_iconst (v := 1) hx hb dX3_pointFrom_26 (by decide) ?_
      refine lv_icmp_ne (tgt := 35) hx hb dX3_pointFrom_27 (by decide) (fun c_27 => ?_) (fun c_27 => ?_)
      ·
        have c_27 : ¬ (nn = 1) := fun q9 => absurd ((nI_eq (by omega) (by omega)).mpr q9) (show ¬ (nI nn = nI 1) from c_27)
        refine lv_iload_n hx hb dX3_pointFrom_35 rfl (lv_at hl 4 rfl) ?_
        refine lv_iconst (v := 2) hx hb dX3_pointFrom_36 (by decide) ?_
        refine lv_icmp_ne (tgt := 49) hx hb dX3_pointFrom_37 (by decide) (fun c_37 => ?_) (fun c_37 => ?_)
        ·
          have c_37 : ¬ (nn = 2) := fun q9 => absurd ((nI_eq (by omega) (by omega)).mpr q9) (show ¬ (nI nn = nI 2) from c_37)
          refine lv_iload_n hx hb dX3_pointFrom_49 rfl (lv_at hl 4 rfl) ?_
          refine lv_iconst (v := 3) hx hb dX3_pointFrom_50 (by decide) ?_
          refine lv_icmp_ne (tgt := 63) hx hb dX3_pointFrom_51 (by decide) (fun c_51 => ?_) (fun c_51 => ?_)
          ·
            have c_51 : ¬ (nn = 3) := fun q9 => absurd ((nI_eq (by omega) (by omega)).mpr q9) (show ¬ (nI nn = nI 3) from c_51)
            refine lv_iload hx hb dX3_pointFrom_63 (lv_at hl 0 rfl) ?_
            refine lv_sipush (v := 240) hx hb dX3_pointFrom_65 (by decide) ?_
            refine lv_isub hx hb dX3_pointFrom_68 ?_
            refine wd_topE (y := (lf (rs r).2 aN - j_fbo (nI nn))) (by rw [show nn = 4 by omega, fbo_4]) ?_
            refine lv_istore (lv' := [(5, .int (lf (rs r).2 aN - j_fbo (nI nn))), (4, .int (lf (rs r).2 aN)), (0, .ref m), (1, .int (nI tN)), (2, .int (nI aN)), (3, .int (nI nn))]) hx hb dX3_pointFrom_69 hl (by decide) rfl (fun ls hl => ?_)
            refine lv_iconst (v := 1) hx hb dX3_pointFrom_71 (by decide) ?_
            refine lv_istore (lv' := [(6, .int 1), (5, .int (lf (rs r).2 aN - j_fbo (nI nn))), (4, .int (lf (rs r).2 aN)), (0, .ref m), (1, .int (nI tN)), (2, .int (nI aN)), (3, .int (nI nn))]) hx hb dX3_pointFrom_72 hl (by decide) rfl (fun ls hl => ?_)
            refine wd_loop2 (fun (k : Nat) (p : Int32) (H : Heap) (locs : List Loc) (ls : Array Slot) => (1 ≤ k) ∧ (k ≤ nn) ∧ (j_pfl (lf (rs r).2) (rs r).2.length (nI (aN + nn)) ((rs r).2.length - (aN + 1)) (aN + 1) (lf (rs r).2 aN - j_fbo (nI nn)) = j_pfl (lf (rs r).2) (rs r).2.length (nI (aN + nn)) ((rs r).2.length - (aN + k)) (aN + k) p) ∧ wd_P D vwCl (wd_A w sg.heap.size) w H ∧ va_S (wd_A w sg.heap.size) sg.heap H locs ∧ lv_has ls 8 [(0, .ref m), (1, .int (nI tN)), (2, .int (nI aN)), (3, .int (nI nn)), (4, .int (lf (rs r).2 aN)), (5, .int p), (6, .int (nI k))]) (fun (k : Nat) (p : Int32) => nn - k) 1 (lf (rs r).2 aN - j_fbo (nI nn)) ⟨(by omega), (by omega), rfl, hW, hS, (lv_sub hl [3, 4, 5, 6, 2, 1, 0] rfl)⟩ (fun k p H locs ls hI ih_74 => ?_)
            obtain ⟨hk1, hk, hI, hW, hS, hl⟩ := hI
            refine lv_iload hx hb dX3_pointFrom_74 (lv_at hl 6 rfl) ?_
            refine lv_iload_n hx hb dX3_pointFrom_76 rfl (lv_at hl 3 rfl) ?_
            refine lv_icmp_ge (tgt := 127) hx hb dX3_pointFrom_77 (by decide) (fun c_77 => ?_) (fun c_77 => ?_)
            ·
              have c_77 : nn ≤ k := (nI_leI (by omega) (by omega)).mp (show (nI nn ≤ nI k) from c_77)
              refine lv_iload_n hx hb dX3_pointFrom_127 rfl (lv_at hl 3 rfl) ?_
              refine lv_iconst (v := 3) hx hb dX3_pointFrom_128 (by decide) ?_
              refine lv_icmp_lt (tgt := 178) hx hb dX3_pointFrom_129 (by decide) (fun c_129 => ?_) (fun c_129 => ?_)
              ·
                have c_129 : nn < 3 := (nI_ltI (by omega) (by omega)).mp (show (nI nn < nI 3) from c_129)
                refine lv_iconst (v := 1) hx hb dX3_pointFrom_178 (by decide) ?_
                refine lv_goto (tgt := 183) hx hb dX3_pointFrom_179 (by decide) ?_
                refine lv_istore (lv' := [(6, .int 1), (0, .ref m), (1, .int (nI tN)), (2, .int (nI aN)), (3, .int (nI nn)), (4, .int (lf (rs r).2 aN)), (5, .int p)]) hx hb dX3_pointFrom_183 hl (by decide) rfl (fun ls hl => ?_)
                refine lv_iload hx hb dX3_pointFrom_185 (lv_at hl 0 rfl) ?_
                refine lv_if_eq (tgt := 195) hx hb dX3_pointFrom_187 (by decide) (fun c_187 => ?_) (fun c_187 => ?_)
                ·
                  exact absurd c_187 (by decide)
                ·
                  refine lv_iload hx hb dX3_pointFrom_190 (lv_at hl 6 rfl) ?_
                  refine lv_goto (tgt := 196) hx hb dX3_pointFrom_192 (by decide) ?_
                  refine wd_iret hx hb hr hlocks hW hS dX3_pointFrom_196 ?_
                  refine ⟨?_, rfl⟩
                  rw [pf_in haN (by omega) hnn hbc c_1 (by omega), hI, j_pfl_out (Or.inl (nI_nlt (by omega) (by omega)))]
                  show _ = (if j_told p (nI nn) then p else -1)
                  rw [if_pos ((told_iff hnn (by omega)).mpr (Or.inl (by omega)))]
              ·
                have c_129 : ¬ (nn < 3) := fun q9 => absurd ((nI_ltI (by omega) (by omega)).mpr q9) (show ¬ (nI nn < nI 3) from c_129)
                refine lv_iload_n hx hb dX3_pointFrom_132 rfl (lv_at hl 3 rfl) ?_
                refine lv_iconst (v := 3) hx hb dX3_pointFrom_133 (by decide) ?_
                refine lv_icmp_ne (tgt := 161) hx hb dX3_pointFrom_134 (by decide) (fun c_134 => ?_) (fun c_134 => ?_)
                ·
                  have c_134 : ¬ (nn = 3) := fun q9 => absurd ((nI_eq (by omega) (by omega)).mpr q9) (show ¬ (nI nn = nI 3) from c_134)
                  refine lv_iload_n hx hb dX3_pointFrom_161 rfl (lv_at hl 3 rfl) ?_
                  refine lv_iconst (v := 4) hx hb dX3_pointFrom_162 (by decide) ?_
                  refine lv_icmp_ne (tgt := 182) hx hb dX3_pointFrom_163 (by decide) (fun c_163 => ?_) (fun c_163 => ?_)
                  ·
                    have c_163 : ¬ (nn = 4) := fun q9 => absurd ((nI_eq (by omega) (by omega)).mpr q9) (show ¬ (nI nn = nI 4) from c_163)
                    refine lv_iconst (v := 0) hx hb dX3_pointFrom_182 (by decide) ?_
                    refine lv_istore (lv' := [(6, .int 0), (0, .ref m), (1, .int (nI tN)), (2, .int (nI aN)), (3, .int (nI nn)), (4, .int (lf (rs r).2 aN)), (5, .int p)]) hx hb dX3_pointFrom_183 hl (by decide) rfl (fun ls hl => ?_)
                    refine lv_iload hx hb dX3_pointFrom_185 (lv_at hl 0 rfl) ?_
                    refine lv_if_eq (tgt := 195) hx hb dX3_pointFrom_187 (by decide) (fun c_187 => ?_) (fun c_187 => ?_)
                    ·
                      refine lv_iconst (v := (-1)) hx hb dX3_pointFrom_195 (by decide) ?_
                      refine wd_iret hx hb hr hlocks hW hS dX3_pointFrom_196 ?_
                      refine ⟨?_, rfl⟩
                      rw [pf_in haN (by omega) hnn hbc c_1 (by omega), hI, j_pfl_out (Or.inl (nI_nlt (by omega) (by omega)))]
                      show _ = (if j_told p (nI nn) then p else -1)
                      rw [if_neg]
                      intro q9
                      rcases (told_iff hnn (by omega)).mp q9 with h | h | h
                      · omega
                      · exact absurd h.1 c_134
                      · exact absurd h.1 c_163
                    ·
                      exact absurd rfl c_187
                  ·
                    have c_163 : nn = 4 := (nI_eq (by omega) (by omega)).mp (show (nI nn = nI 4) from c_163)
                    refine lv_iload hx hb dX3_pointFrom_166 (lv_at hl 5 rfl) ?_
                    refine lv_ldc (v := 65536) hx hb hown (hts (.constant RX3 70 65536) (by decide +kernel)) dX3_pointFrom_168 ?_
                    refine lv_ldc (v := 1114111) hx hb hown (hts (.constant RX3 48 1114111) (by decide +kernel)) dX3_pointFrom_170 ?_
                    refine wd_callSi (As := [.int p, .int 65536, .int 1114111]) (rest := []) (c2 := 0) (s2 := 0) ⟨hx, hb, hml, hown, hts⟩ (k_X3_within l D cI cT w H.size p 65536 1114111 ) (va_cwS 3 hts gX3_pointFrom_X3_within rfl rfl rfl (by decide +kernel) ⟨Nat.le_of_ble_eq_true rfl, Nat.le_of_ble_eq_true rfl⟩) gK_ok hK hW hS hA rfl hl.1 rfl (Nat.le_of_ble_eq_true rfl) dX3_pointFrom_172 ⟨Nat.le_of_ble_eq_true rfl, Nat.le_of_ble_eq_true rfl⟩ rfl rfl (fun r_172 w_172 H locs hp_172 hW hz hS => ?_)
                    obtain ⟨q_r, q_w⟩ := hp_172
                    subst r_172
                    subst w_172
                    refine lv_if_eq (tgt := 182) hx hb dX3_pointFrom_175 (by decide) (fun c_175 => ?_) (fun c_175 => ?_)
                    ·
                      have c_175 := j_b0 c_175
                      refine lv_iconst (v := 0) hx hb dX3_pointFrom_182 (by decide) ?_
                      refine lv_istore (lv' := [(6, .int 0), (0, .ref m), (1, .int (nI tN)), (2, .int (nI aN)), (3, .int (nI nn)), (4, .int (lf (rs r).2 aN)), (5, .int p)]) hx hb dX3_pointFrom_183 hl (by decide) rfl (fun ls hl => ?_)
                      refine lv_iload hx hb dX3_pointFrom_185 (lv_at hl 0 rfl) ?_
                      refine lv_if_eq (tgt := 195) hx hb dX3_pointFrom_187 (by decide) (fun c_187 => ?_) (fun c_187 => ?_)
                      ·
                        refine lv_iconst (v := (-1)) hx hb dX3_pointFrom_195 (by decide) ?_
                        refine wd_iret hx hb hr hlocks hW hS dX3_pointFrom_196 ?_
                        refine ⟨?_, rfl⟩
                        rw [pf_in haN (by omega) hnn hbc c_1 (by omega), hI, j_pfl_out (Or.inl (nI_nlt (by omega) (by omega)))]
                        show _ = (if j_told p (nI nn) then p else -1)
                        rw [if_neg]
                        intro q9
                        rcases (told_iff hnn (by omega)).mp q9 with h | h | h
                        · omega
                        · exact absurd h.1 c_134
                        · exact c_175 ⟨h.2.1, h.2.2⟩
                      ·
                        exact absurd rfl c_187
                    ·
                      have c_175 := j_bn c_175
                      refine lv_iconst (v := 1) hx hb dX3_pointFrom_178 (by decide) ?_
                      refine lv_goto (tgt := 183) hx hb dX3_pointFrom_179 (by decide) ?_
                      refine lv_istore (lv' := [(6, .int 1), (0, .ref m), (1, .int (nI tN)), (2, .int (nI aN)), (3, .int (nI nn)), (4, .int (lf (rs r).2 aN)), (5, .int p)]) hx hb dX3_pointFrom_183 hl (by decide) rfl (fun ls hl => ?_)
                      refine lv_iload hx hb dX3_pointFrom_185 (lv_at hl 0 rfl) ?_
                      refine lv_if_eq (tgt := 195) hx hb dX3_pointFrom_187 (by decide) (fun c_187 => ?_) (fun c_187 => ?_)
                      ·
                        exact absurd c_187 (by decide)
                      ·
                        refine lv_iload hx hb dX3_pointFrom_190 (lv_at hl 6 rfl) ?_
                        refine lv_goto (tgt := 196) hx hb dX3_pointFrom_192 (by decide) ?_
                        refine wd_iret hx hb hr hlocks hW hS dX3_pointFrom_196 ?_
                        refine ⟨?_, rfl⟩
                        rw [pf_in haN (by omega) hnn hbc c_1 (by omega), hI, j_pfl_out (Or.inl (nI_nlt (by omega) (by omega)))]
                        show _ = (if j_told p (nI nn) then p else -1)
                        rw [if_pos ((told_iff hnn (by omega)).mpr (Or.inr (Or.inr ⟨by omega, c_175.1, c_175.2⟩)))]
                ·
                  have c_134 : nn = 3 := (nI_eq (by omega) (by omega)).mp (show (nI nn = nI 3) from c_134)
                  refine lv_iload hx hb dX3_pointFrom_137 (lv_at hl 5 rfl) ?_
                  refine lv_sipush (v := 2048) hx hb dX3_pointFrom_139 (by decide) ?_
                  refine lv_icmp_lt (tgt := 161) hx hb dX3_pointFrom_142 (by decide) (fun c_142 => ?_) (fun c_142 => ?_)
                  ·
                    refine lv_iload_n hx hb dX3_pointFrom_161 rfl (lv_at hl 3 rfl) ?_
                    refine lv_iconst (v := 4) hx hb dX3_pointFrom_162 (by decide) ?_
                    refine lv_icmp_ne (tgt := 182) hx hb dX3_pointFrom_163 (by decide) (fun c_163 => ?_) (fun c_163 => ?_)
                    ·
                      have c_163 : ¬ (nn = 4) := fun q9 => absurd ((nI_eq (by omega) (by omega)).mpr q9) (show ¬ (nI nn = nI 4) from c_163)
                      refine lv_iconst (v := 0) hx hb dX3_pointFrom_182 (by decide) ?_
                      refine lv_istore (lv' := [(6, .int 0), (0, .ref m), (1, .int (nI tN)), (2, .int (nI aN)), (3, .int (nI nn)), (4, .int (lf (rs r).2 aN)), (5, .int p)]) hx hb dX3_pointFrom_183 hl (by decide) rfl (fun ls hl => ?_)
                      refine lv_iload hx hb dX3_pointFrom_185 (lv_at hl 0 rfl) ?_
                      refine lv_if_eq (tgt := 195) hx hb dX3_pointFrom_187 (by decide) (fun c_187 => ?_) (fun c_187 => ?_)
                      ·
                        refine lv_iconst (v := (-1)) hx hb dX3_pointFrom_195 (by decide) ?_
                        refine wd_iret hx hb hr hlocks hW hS dX3_pointFrom_196 ?_
                        refine ⟨?_, rfl⟩
                        rw [pf_in haN (by omega) hnn hbc c_1 (by omega), hI, j_pfl_out (Or.inl (nI_nlt (by omega) (by omega)))]
                        show _ = (if j_told p (nI nn) then p else -1)
                        rw [if_neg]
                        intro q9
                        rcases (told_iff hnn (by omega)).mp q9 with h | h | h
                        · omega
                        · (have h9 := h.2.1; rw [i_le] at h9; exact h9 c_142)
                        · exact absurd h.1 c_163
                      ·
                        exact absurd rfl c_187
                    ·
                      have c_163 : nn = 4 := (nI_eq (by omega) (by omega)).mp (show (nI nn = nI 4) from c_163)
                      refine lv_iload hx hb dX3_pointFrom_166 (lv_at hl 5 rfl) ?_
                      refine lv_ldc (v := 65536) hx hb hown (hts (.constant RX3 70 65536) (by decide +kernel)) dX3_pointFrom_168 ?_
                      refine lv_ldc (v := 1114111) hx hb hown (hts (.constant RX3 48 1114111) (by decide +kernel)) dX3_pointFrom_170 ?_
                      refine wd_callSi (As := [.int p, .int 65536, .int 1114111]) (rest := []) (c2 := 0) (s2 := 0) ⟨hx, hb, hml, hown, hts⟩ (k_X3_within l D cI cT w H.size p 65536 1114111 ) (va_cwS 3 hts gX3_pointFrom_X3_within rfl rfl rfl (by decide +kernel) ⟨Nat.le_of_ble_eq_true rfl, Nat.le_of_ble_eq_true rfl⟩) gK_ok hK hW hS hA rfl hl.1 rfl (Nat.le_of_ble_eq_true rfl) dX3_pointFrom_172 ⟨Nat.le_of_ble_eq_true rfl, Nat.le_of_ble_eq_true rfl⟩ rfl rfl (fun r_172 w_172 H locs hp_172 hW hz hS => ?_)
                      obtain ⟨q_r, q_w⟩ := hp_172
                      subst r_172
                      subst w_172
                      refine lv_if_eq (tgt := 182) hx hb dX3_pointFrom_175 (by decide) (fun c_175 => ?_) (fun c_175 => ?_)
                      ·
                        have c_175 := j_b0 c_175
                        refine lv_iconst (v := 0) hx hb dX3_pointFrom_182 (by decide) ?_
                        refine lv_istore (lv' := [(6, .int 0), (0, .ref m), (1, .int (nI tN)), (2, .int (nI aN)), (3, .int (nI nn)), (4, .int (lf (rs r).2 aN)), (5, .int p)]) hx hb dX3_pointFrom_183 hl (by decide) rfl (fun ls hl => ?_)
                        refine lv_iload hx hb dX3_pointFrom_185 (lv_at hl 0 rfl) ?_
                        refine lv_if_eq (tgt := 195) hx hb dX3_pointFrom_187 (by decide) (fun c_187 => ?_) (fun c_187 => ?_)
                        ·
                          refine lv_iconst (v := (-1)) hx hb dX3_pointFrom_195 (by decide) ?_
                          refine wd_iret hx hb hr hlocks hW hS dX3_pointFrom_196 ?_
                          refine ⟨?_, rfl⟩
                          rw [pf_in haN (by omega) hnn hbc c_1 (by omega), hI, j_pfl_out (Or.inl (nI_nlt (by omega) (by omega)))]
                          show _ = (if j_told p (nI nn) then p else -1)
                          rw [if_neg]
                          intro q9
                          rcases (told_iff hnn (by omega)).mp q9 with h | h | h
                          · omega
                          · (have h9 := h.2.1; rw [i_le] at h9; exact h9 c_142)
                          · exact c_175 ⟨h.2.1, h.2.2⟩
                        ·
                          exact absurd rfl c_187
                      ·
                        have c_175 := j_bn c_175
                        refine lv_iconst (v := 1) hx hb dX3_pointFrom_178 (by decide) ?_
                        refine lv_goto (tgt := 183) hx hb dX3_pointFrom_179 (by decide) ?_
                        refine lv_istore (lv' := [(6, .int 1), (0, .ref m), (1, .int (nI tN)), (2, .int (nI aN)), (3, .int (nI nn)), (4, .int (lf (rs r).2 aN)), (5, .int p)]) hx hb dX3_pointFrom_183 hl (by decide) rfl (fun ls hl => ?_)
                        refine lv_iload hx hb dX3_pointFrom_185 (lv_at hl 0 rfl) ?_
                        refine lv_if_eq (tgt := 195) hx hb dX3_pointFrom_187 (by decide) (fun c_187 => ?_) (fun c_187 => ?_)
                        ·
                          exact absurd c_187 (by decide)
                        ·
                          refine lv_iload hx hb dX3_pointFrom_190 (lv_at hl 6 rfl) ?_
                          refine lv_goto (tgt := 196) hx hb dX3_pointFrom_192 (by decide) ?_
                          refine wd_iret hx hb hr hlocks hW hS dX3_pointFrom_196 ?_
                          refine ⟨?_, rfl⟩
                          rw [pf_in haN (by omega) hnn hbc c_1 (by omega), hI, j_pfl_out (Or.inl (nI_nlt (by omega) (by omega)))]
                          show _ = (if j_told p (nI nn) then p else -1)
                          rw [if_pos ((told_iff hnn (by omega)).mpr (Or.inr (Or.inr ⟨by omega, c_175.1, c_175.2⟩)))]
                  ·
                    refine lv_iload hx hb dX3_pointFrom_145 (lv_at hl 5 rfl) ?_
                    refine wd_callSi (As := [.int p]) (rest := []) (c2 := 0) (s2 := 0) ⟨hx, hb, hml, hown, hts⟩ (k_X3_isHigh l D cI cT w H.size p ) (va_cwS 1 hts gX3_pointFrom_X3_isHigh rfl rfl rfl (by decide +kernel) ⟨Nat.le_of_ble_eq_true rfl, Nat.le_of_ble_eq_true rfl⟩) gK_ok hK hW hS hA rfl hl.1 rfl (Nat.le_of_ble_eq_true rfl) dX3_pointFrom_147 ⟨Nat.le_of_ble_eq_true rfl, Nat.le_of_ble_eq_true rfl⟩ rfl rfl (fun r_147 w_147 H locs hp_147 hW hz hS => ?_)
                    obtain ⟨q_r, q_w⟩ := hp_147
                    subst r_147
                    subst w_147
                    refine lv_if_ne (tgt := 161) hx hb dX3_pointFrom_150 (by decide) (fun c_150 => ?_) (fun c_150 => ?_)
                    ·
                      have c_150 := j_bn c_150
                      refine lv_iload_n hx hb dX3_pointFrom_161 rfl (lv_at hl 3 rfl) ?_
                      refine lv_iconst (v := 4) hx hb dX3_pointFrom_162 (by decide) ?_
                      refine lv_icmp_ne (tgt := 182) hx hb dX3_pointFrom_163 (by decide) (fun c_163 => ?_) (fun c_163 => ?_)
                      ·
                        have c_163 : ¬ (nn = 4) := fun q9 => absurd ((nI_eq (by omega) (by omega)).mpr q9) (show ¬ (nI nn = nI 4) from c_163)
                        refine lv_iconst (v := 0) hx hb dX3_pointFrom_182 (by decide) ?_
                        refine lv_istore (lv' := [(6, .int 0), (0, .ref m), (1, .int (nI tN)), (2, .int (nI aN)), (3, .int (nI nn)), (4, .int (lf (rs r).2 aN)), (5, .int p)]) hx hb dX3_pointFrom_183 hl (by decide) rfl (fun ls hl => ?_)
                        refine lv_iload hx hb dX3_pointFrom_185 (lv_at hl 0 rfl) ?_
                        refine lv_if_eq (tgt := 195) hx hb dX3_pointFrom_187 (by decide) (fun c_187 => ?_) (fun c_187 => ?_)
                        ·
                          refine lv_iconst (v := (-1)) hx hb dX3_pointFrom_195 (by decide) ?_
                          refine wd_iret hx hb hr hlocks hW hS dX3_pointFrom_196 ?_
                          refine ⟨?_, rfl⟩
                          rw [pf_in haN (by omega) hnn hbc c_1 (by omega), hI, j_pfl_out (Or.inl (nI_nlt (by omega) (by omega)))]
                          show _ = (if j_told p (nI nn) then p else -1)
                          rw [if_neg]
                          intro q9
                          rcases (told_iff hnn (by omega)).mp q9 with h | h | h
                          · omega
                          · exact h.2.2.1 c_150
                          · exact absurd h.1 c_163
                        ·
                          exact absurd rfl c_187
                      ·
                        have c_163 : nn = 4 := (nI_eq (by omega) (by omega)).mp (show (nI nn = nI 4) from c_163)
                        refine lv_iload hx hb dX3_pointFrom_166 (lv_at hl 5 rfl) ?_
                        refine lv_ldc (v := 65536) hx hb hown (hts (.constant RX3 70 65536) (by decide +kernel)) dX3_pointFrom_168 ?_
                        refine lv_ldc (v := 1114111) hx hb hown (hts (.constant RX3 48 1114111) (by decide +kernel)) dX3_pointFrom_170 ?_
                        refine wd_callSi (As := [.int p, .int 65536, .int 1114111]) (rest := []) (c2 := 0) (s2 := 0) ⟨hx, hb, hml, hown, hts⟩ (k_X3_within l D cI cT w H.size p 65536 1114111 ) (va_cwS 3 hts gX3_pointFrom_X3_within rfl rfl rfl (by decide +kernel) ⟨Nat.le_of_ble_eq_true rfl, Nat.le_of_ble_eq_true rfl⟩) gK_ok hK hW hS hA rfl hl.1 rfl (Nat.le_of_ble_eq_true rfl) dX3_pointFrom_172 ⟨Nat.le_of_ble_eq_true rfl, Nat.le_of_ble_eq_true rfl⟩ rfl rfl (fun r_172 w_172 H locs hp_172 hW hz hS => ?_)
                        obtain ⟨q_r, q_w⟩ := hp_172
                        subst r_172
                        subst w_172
                        refine lv_if_eq (tgt := 182) hx hb dX3_pointFrom_175 (by decide) (fun c_175 => ?_) (fun c_175 => ?_)
                        ·
                          have c_175 := j_b0 c_175
                          refine lv_iconst (v := 0) hx hb dX3_pointFrom_182 (by decide) ?_
                          refine lv_istore (lv' := [(6, .int 0), (0, .ref m), (1, .int (nI tN)), (2, .int (nI aN)), (3, .int (nI nn)), (4, .int (lf (rs r).2 aN)), (5, .int p)]) hx hb dX3_pointFrom_183 hl (by decide) rfl (fun ls hl => ?_)
                          refine lv_iload hx hb dX3_pointFrom_185 (lv_at hl 0 rfl) ?_
                          refine lv_if_eq (tgt := 195) hx hb dX3_pointFrom_187 (by decide) (fun c_187 => ?_) (fun c_187 => ?_)
                          ·
                            refine lv_iconst (v := (-1)) hx hb dX3_pointFrom_195 (by decide) ?_
                            refine wd_iret hx hb hr hlocks hW hS dX3_pointFrom_196 ?_
                            refine ⟨?_, rfl⟩
                            rw [pf_in haN (by omega) hnn hbc c_1 (by omega), hI, j_pfl_out (Or.inl (nI_nlt (by omega) (by omega)))]
                            show _ = (if j_told p (nI nn) then p else -1)
                            rw [if_neg]
                            intro q9
                            rcases (told_iff hnn (by omega)).mp q9 with h | h | h
                            · omega
                            · exact h.2.2.1 c_150
                            · exact c_175 ⟨h.2.1, h.2.2⟩
                          ·
                            exact absurd rfl c_187
                        ·
                          have c_175 := j_bn c_175
                          refine lv_iconst (v := 1) hx hb dX3_pointFrom_178 (by decide) ?_
                          refine lv_goto (tgt := 183) hx hb dX3_pointFrom_179 (by decide) ?_
                          refine lv_istore (lv' := [(6, .int 1), (0, .ref m), (1, .int (nI tN)), (2, .int (nI aN)), (3, .int (nI nn)), (4, .int (lf (rs r).2 aN)), (5, .int p)]) hx hb dX3_pointFrom_183 hl (by decide) rfl (fun ls hl => ?_)
                          refine lv_iload hx hb dX3_pointFrom_185 (lv_at hl 0 rfl) ?_
                          refine lv_if_eq (tgt := 195) hx hb dX3_pointFrom_187 (by decide) (fun c_187 => ?_) (fun c_187 => ?_)
                          ·
                            exact absurd c_187 (by decide)
                          ·
                            refine lv_iload hx hb dX3_pointFrom_190 (lv_at hl 6 rfl) ?_
                            refine lv_goto (tgt := 196) hx hb dX3_pointFrom_192 (by decide) ?_
                            refine wd_iret hx hb hr hlocks hW hS dX3_pointFrom_196 ?_
                            refine ⟨?_, rfl⟩
                            rw [pf_in haN (by omega) hnn hbc c_1 (by omega), hI, j_pfl_out (Or.inl (nI_nlt (by omega) (by omega)))]
                            show _ = (if j_told p (nI nn) then p else -1)
                            rw [if_pos ((told_iff hnn (by omega)).mpr (Or.inr (Or.inr ⟨by omega, c_175.1, c_175.2⟩)))]
                    ·
                      have c_150 := j_b0 c_150
                      refine lv_iload hx hb dX3_pointFrom_153 (lv_at hl 5 rfl) ?_
                      refine wd_callSi (As := [.int p]) (rest := []) (c2 := 0) (s2 := 0) ⟨hx, hb, hml, hown, hts⟩ (k_X3_isLow l D cI cT w H.size p ) (va_cwS 1 hts gX3_pointFrom_X3_isLow rfl rfl rfl (by decide +kernel) ⟨Nat.le_of_ble_eq_true rfl, Nat.le_of_ble_eq_true rfl⟩) gK_ok hK hW hS hA rfl hl.1 rfl (Nat.le_of_ble_eq_true rfl) dX3_pointFrom_155 ⟨Nat.le_of_ble_eq_true rfl, Nat.le_of_ble_eq_true rfl⟩ rfl rfl (fun r_155 w_155 H locs hp_155 hW hz hS => ?_)
                      obtain ⟨q_r, q_w⟩ := hp_155
                      subst r_155
                      subst w_155
                      refine lv_if_eq (tgt := 178) hx hb dX3_pointFrom_158 (by decide) (fun c_158 => ?_) (fun c_158 => ?_)
                      ·
                        have c_158 := j_b0 c_158
                        refine lv_iconst (v := 1) hx hb dX3_pointFrom_178 (by decide) ?_
                        refine lv_goto (tgt := 183) hx hb dX3_pointFrom_179 (by decide) ?_
                        refine lv_istore (lv' := [(6, .int 1), (0, .ref m), (1, .int (nI tN)), (2, .int (nI aN)), (3, .int (nI nn)), (4, .int (lf (rs r).2 aN)), (5, .int p)]) hx hb dX3_pointFrom_183 hl (by decide) rfl (fun ls hl => ?_)
                        refine lv_iload hx hb dX3_pointFrom_185 (lv_at hl 0 rfl) ?_
                        refine lv_if_eq (tgt := 195) hx hb dX3_pointFrom_187 (by decide) (fun c_187 => ?_) (fun c_187 => ?_)
                        ·
                          exact absurd c_187 (by decide)
                        ·
                          refine lv_iload hx hb dX3_pointFrom_190 (lv_at hl 6 rfl) ?_
                          refine lv_goto (tgt := 196) hx hb dX3_pointFrom_192 (by decide) ?_
                          refine wd_iret hx hb hr hlocks hW hS dX3_pointFrom_196 ?_
                          refine ⟨?_, rfl⟩
                          rw [pf_in haN (by omega) hnn hbc c_1 (by omega), hI, j_pfl_out (Or.inl (nI_nlt (by omega) (by omega)))]
                          show _ = (if j_told p (nI nn) then p else -1)
                          rw [if_pos ((told_iff hnn (by omega)).mpr (Or.inr (Or.inl ⟨by omega, by rw [i_le]; exact c_142, c_150, c_158⟩)))]
                      ·
                        have c_158 := j_bn c_158
                        refine lv_iload_n hx hb dX3_pointFrom_161 rfl (lv_at hl 3 rfl) ?_
                        refine lv_iconst (v := 4) hx hb dX3_pointFrom_162 (by decide) ?_
                        refine lv_icmp_ne (tgt := 182) hx hb dX3_pointFrom_163 (by decide) (fun c_163 => ?_) (fun c_163 => ?_)
                        ·
                          have c_163 : ¬ (nn = 4) := fun q9 => absurd ((nI_eq (by omega) (by omega)).mpr q9) (show ¬ (nI nn = nI 4) from c_163)
                          refine lv_iconst (v := 0) hx hb dX3_pointFrom_182 (by decide) ?_
                          refine lv_istore (lv' := [(6, .int 0), (0, .ref m), (1, .int (nI tN)), (2, .int (nI aN)), (3, .int (nI nn)), (4, .int (lf (rs r).2 aN)), (5, .int p)]) hx hb dX3_pointFrom_183 hl (by decide) rfl (fun ls hl => ?_)
                          refine lv_iload hx hb dX3_pointFrom_185 (lv_at hl 0 rfl) ?_
                          refine lv_if_eq (tgt := 195) hx hb dX3_pointFrom_187 (by decide) (fun c_187 => ?_) (fun c_187 => ?_)
                          ·
                            refine lv_iconst (v := (-1)) hx hb dX3_pointFrom_195 (by decide) ?_
                            refine wd_iret hx hb hr hlocks hW hS dX3_pointFrom_196 ?_
                            refine ⟨?_, rfl⟩
                            rw [pf_in haN (by omega) hnn hbc c_1 (by omega), hI, j_pfl_out (Or.inl (nI_nlt (by omega) (by omega)))]
                            show _ = (if j_told p (nI nn) then p else -1)
                            rw [if_neg]
                            intro q9
                            rcases (told_iff hnn (by omega)).mp q9 with h | h | h
                            · omega
                            · exact h.2.2.2 c_158
                            · exact absurd h.1 c_163
                          ·
                            exact absurd rfl c_187
                        ·
                          have c_163 : nn = 4 := (nI_eq (by omega) (by omega)).mp (show (nI nn = nI 4) from c_163)
                          refine lv_iload hx hb dX3_pointFrom_166 (lv_at hl 5 rfl) ?_
                          refine lv_ldc (v := 65536) hx hb hown (hts (.constant RX3 70 65536) (by decide +kernel)) dX3_pointFrom_168 ?_
                          refine lv_ldc (v := 1114111) hx hb hown (hts (.constant RX3 48 1114111) (by decide +kernel)) dX3_pointFrom_170 ?_
                          refine wd_callSi (As := [.int p, .int 65536, .int 1114111]) (rest := []) (c2 := 0) (s2 := 0) ⟨hx, hb, hml, hown, hts⟩ (k_X3_within l D cI cT w H.size p 65536 1114111 ) (va_cwS 3 hts gX3_pointFrom_X3_within rfl rfl rfl (by decide +kernel) ⟨Nat.le_of_ble_eq_true rfl, Nat.le_of_ble_eq_true rfl⟩) gK_ok hK hW hS hA rfl hl.1 rfl (Nat.le_of_ble_eq_true rfl) dX3_pointFrom_172 ⟨Nat.le_of_ble_eq_true rfl, Nat.le_of_ble_eq_true rfl⟩ rfl rfl (fun r_172 w_172 H locs hp_172 hW hz hS => ?_)
                          obtain ⟨q_r, q_w⟩ := hp_172
                          subst r_172
                          subst w_172
                          refine lv_if_eq (tgt := 182) hx hb dX3_pointFrom_175 (by decide) (fun c_175 => ?_) (fun c_175 => ?_)
                          ·
                            have c_175 := j_b0 c_175
                            refine lv_iconst (v := 0) hx hb dX3_pointFrom_182 (by decide) ?_
                            refine lv_istore (lv' := [(6, .int 0), (0, .ref m), (1, .int (nI tN)), (2, .int (nI aN)), (3, .int (nI nn)), (4, .int (lf (rs r).2 aN)), (5, .int p)]) hx hb dX3_pointFrom_183 hl (by decide) rfl (fun ls hl => ?_)
                            refine lv_iload hx hb dX3_pointFrom_185 (lv_at hl 0 rfl) ?_
                            refine lv_if_eq (tgt := 195) hx hb dX3_pointFrom_187 (by decide) (fun c_187 => ?_) (fun c_187 => ?_)
                            ·
                              refine lv_iconst (v := (-1)) hx hb dX3_pointFrom_195 (by decide) ?_
                              refine wd_iret hx hb hr hlocks hW hS dX3_pointFrom_196 ?_
                              refine ⟨?_, rfl⟩
                              rw [pf_in haN (by omega) hnn hbc c_1 (by omega), hI, j_pfl_out (Or.inl (nI_nlt (by omega) (by omega)))]
                              show _ = (if j_told p (nI nn) then p else -1)
                              rw [if_neg]
                              intro q9
                              rcases (told_iff hnn (by omega)).mp q9 with h | h | h
                              · omega
                              · exact h.2.2.2 c_158
                              · exact c_175 ⟨h.2.1, h.2.2⟩
                            ·
                              exact absurd rfl c_187
                          ·
                            have c_175 := j_bn c_175
                            refine lv_iconst (v := 1) hx hb dX3_pointFrom_178 (by decide) ?_
                            refine lv_goto (tgt := 183) hx hb dX3_pointFrom_179 (by decide) ?_
                            refine lv_istore (lv' := [(6, .int 1), (0, .ref m), (1, .int (nI tN)), (2, .int (nI aN)), (3, .int (nI nn)), (4, .int (lf (rs r).2 aN)), (5, .int p)]) hx hb dX3_pointFrom_183 hl (by decide) rfl (fun ls hl => ?_)
                            refine lv_iload hx hb dX3_pointFrom_185 (lv_at hl 0 rfl) ?_
                            refine lv_if_eq (tgt := 195) hx hb dX3_pointFrom_187 (by decide) (fun c_187 => ?_) (fun c_187 => ?_)
                            ·
                              exact absurd c_187 (by decide)
                            ·
                              refine lv_iload hx hb dX3_pointFrom_190 (lv_at hl 6 rfl) ?_
                              refine lv_goto (tgt := 196) hx hb dX3_pointFrom_192 (by decide) ?_
                              refine wd_iret hx hb hr hlocks hW hS dX3_pointFrom_196 ?_
                              refine ⟨?_, rfl⟩
                              rw [pf_in haN (by omega) hnn hbc c_1 (by omega), hI, j_pfl_out (Or.inl (nI_nlt (by omega) (by omega)))]
                              show _ = (if j_told p (nI nn) then p else -1)
                              rw [if_pos ((told_iff hnn (by omega)).mpr (Or.inr (Or.inr ⟨by omega, c_175.1, c_175.2⟩)))]
            ·
              have c_77 : ¬ (nn ≤ k) := fun q9 => absurd ((nI_leI (by omega) (by omega)).mpr q9) (show ¬ (nI nn ≤ nI k) from c_77)
              refine lv_aload_n hx hb dX3_pointFrom_80 rfl (lv_at hl 0 rfl) ?_
              refine lv_iload_n hx hb dX3_pointFrom_81 rfl (lv_at hl 1 rfl) ?_
              refine lv_iload_n hx hb dX3_pointFrom_82 rfl (lv_at hl 2 rfl) ?_
              refine lv_iload hx hb dX3_pointFrom_83 (lv_at hl 6 rfl) ?_
              refine lv_iadd hx hb dX3_pointFrom_85 ?_
              refine wd_topE (y := nI (aN + k)) (nI_add _ _) ?_
              refine wd_callVi (As := [.int (nI tN), .int (nI (aN + k))]) (rest := []) (c2 := 0) (s2 := 0) ⟨hx, hb, hml, hown, hts⟩ (k_X3_item l D cI cT w H.size m A fK (fun r => (rs r).1) (fun r => nI (rs r).2.length) fI kc cd pl XD XP XU XO XB tx rs tN r (aN + k) hR (by omega) htx hr24 hit (by omega)) (cwV 2 hts gX3_pointFrom_X3_item rfl rfl rfl (by decide +kernel) ⟨Nat.le_of_ble_eq_true rfl, Nat.le_of_ble_eq_true rfl⟩) gK_ok hK hW (wd_recv (ci := 3) hK.1 hW rfl hR.1) hS hA rfl hl.1 rfl (Nat.le_of_ble_eq_true rfl) dX3_pointFrom_86 ⟨Nat.le_of_ble_eq_true rfl, Nat.le_of_ble_eq_true rfl⟩ rfl rfl (fun r_86 w_86 H locs hp_86 hW hz hS => ?_)
              obtain ⟨q_r, q_w⟩ := hp_86
              subst r_86
              subst w_86
              refine lv_istore (lv' := [(7, .int (lf (rs r).2 (aN + k))), (0, .ref m), (1, .int (nI tN)), (2, .int (nI aN)), (3, .int (nI nn)), (4, .int (lf (rs r).2 aN)), (5, .int p), (6, .int (nI k))]) hx hb dX3_pointFrom_89 hl (by decide) rfl (fun ls hl => ?_)
              refine lv_iload hx hb dX3_pointFrom_91 (lv_at hl 0 rfl) ?_
              refine lv_sipush (v := 128) hx hb dX3_pointFrom_93 (by decide) ?_
              refine lv_sipush (v := 191) hx hb dX3_pointFrom_96 (by decide) ?_
              refine wd_callSi (As := [.int (lf (rs r).2 (aN + k)), .int 128, .int 191]) (rest := []) (c2 := 0) (s2 := 0) ⟨hx, hb, hml, hown, hts⟩ (k_X3_within l D cI cT w H.size (lf (rs r).2 (aN + k)) 128 191 ) (va_cwS 3 hts gX3_pointFrom_X3_within rfl rfl rfl (by decide +kernel) ⟨Nat.le_of_ble_eq_true rfl, Nat.le_of_ble_eq_true rfl⟩) gK_ok hK hW hS hA rfl hl.1 rfl (Nat.le_of_ble_eq_true rfl) dX3_pointFrom_99 ⟨Nat.le_of_ble_eq_true rfl, Nat.le_of_ble_eq_true rfl⟩ rfl rfl (fun r_99 w_99 H locs hp_99 hW hz hS => ?_)
              obtain ⟨q_r, q_w⟩ := hp_99
              subst r_99
              subst w_99
              refine lv_if_ne (tgt := 107) hx hb dX3_pointFrom_102 (by decide) (fun c_102 => ?_) (fun c_102 => ?_)
              ·
                have c_102 := j_bn c_102
                refine lv_bipush (v := 64) hx hb dX3_pointFrom_107 (by decide) ?_
                refine lv_iload hx hb dX3_pointFrom_109 (lv_at hl 6 rfl) ?_
                refine lv_imul hx hb dX3_pointFrom_111 ?_
                refine lv_iload hx hb dX3_pointFrom_112 (lv_at hl 0 rfl) ?_
                refine lv_iadd hx hb dX3_pointFrom_114 ?_
                refine lv_sipush (v := 128) hx hb dX3_pointFrom_115 (by decide) ?_
                refine lv_isub hx hb dX3_pointFrom_118 ?_
                refine wd_topE (y := p * 64 + (lf (rs r).2 (aN + k) - 128)) (pf_step _ _) ?_
                refine lv_istore (lv' := [(5, .int (p * 64 + (lf (rs r).2 (aN + k) - 128))), (7, .int (lf (rs r).2 (aN + k))), (0, .ref m), (1, .int (nI tN)), (2, .int (nI aN)), (3, .int (nI nn)), (4, .int (lf (rs r).2 aN)), (6, .int (nI k))]) hx hb dX3_pointFrom_119 hl (by decide) rfl (fun ls hl => ?_)
                refine lv_iinc (v := nI (k + 1)) (lv' := [(6, .int (nI (k + 1))), (5, .int (p * 64 + (lf (rs r).2 (aN + k) - 128))), (7, .int (lf (rs r).2 (aN + k))), (0, .ref m), (1, .int (nI tN)), (2, .int (nI aN)), (3, .int (nI nn)), (4, .int (lf (rs r).2 aN))]) hx hb dX3_pointFrom_121 hl (k := 7) rfl (nI_add k 1) (by decide) rfl (fun ls hl => ?_)
                refine lv_goto (tgt := 74) hx hb dX3_pointFrom_124 (by decide) ?_
                exact ih_74 (k + 1) (p * 64 + (lf (rs r).2 (aN + k) - 128)) H locs ls ⟨(by omega), (by omega), (hI.trans ((j_pfl_go (nI_lt (by omega) (by omega)) (by omega) (rng_in c_102) (by omega)).trans (by rw [show (rs r).2.length - (aN + k) - 1 = (rs r).2.length - (aN + (k + 1)) by omega]; rfl))), hW, hS, (lv_sub hl [3, 4, 5, 6, 7, 1, 0] rfl)⟩ (by omega)
              ·
                have c_102 := j_b0 c_102
                refine lv_iconst (v := (-1)) hx hb dX3_pointFrom_105 (by decide) ?_
                refine wd_iret hx hb hr hlocks hW hS dX3_pointFrom_106 ?_
                exact ⟨by rw [pf_in haN (by omega) hnn hbc c_1 (by omega), hI, j_pfl_bad (nI_lt (by omega) (by omega)) (by omega) (rng_out c_102) (by omega)], rfl⟩
          ·
            have c_51 : nn = 3 := (nI_eq (by omega) (by omega)).mp (show (nI nn = nI 3) from c_51)
            refine lv_iload hx hb dX3_pointFrom_54 (lv_at hl 0 rfl) ?_
            refine lv_sipush (v := 224) hx hb dX3_pointFrom_56 (by decide) ?_
            refine lv_isub hx hb dX3_pointFrom_59 ?_
            refine lv_goto (tgt := 69) hx hb dX3_pointFrom_60 (by decide) ?_
            refine wd_topE (y := (lf (rs r).2 aN - j_fbo (nI nn))) (by rw [c_51, fbo_3]) ?_
            refine lv_istore (lv' := [(5, .int (lf (rs r).2 aN - j_fbo (nI nn))), (4, .int (lf (rs r).2 aN)), (0, .ref m), (1, .int (nI tN)), (2, .int (nI aN)), (3, .int (nI nn))]) hx hb dX3_pointFrom_69 hl (by decide) rfl (fun ls hl => ?_)
            refine lv_iconst (v := 1) hx hb dX3_pointFrom_71 (by decide) ?_
            refine lv_istore (lv' := [(6, .int 1), (5, .int (lf (rs r).2 aN - j_fbo (nI nn))), (4, .int (lf (rs r).2 aN)), (0, .ref m), (1, .int (nI tN)), (2, .int (nI aN)), (3, .int (nI nn))]) hx hb dX3_pointFrom_72 hl (by decide) rfl (fun ls hl => ?_)
            refine wd_loop2 (fun (k : Nat) (p : Int32) (H : Heap) (locs : List Loc) (ls : Array Slot) => (1 ≤ k) ∧ (k ≤ nn) ∧ (j_pfl (lf (rs r).2) (rs r).2.length (nI (aN + nn)) ((rs r).2.length - (aN + 1)) (aN + 1) (lf (rs r).2 aN - j_fbo (nI nn)) = j_pfl (lf (rs r).2) (rs r).2.length (nI (aN + nn)) ((rs r).2.length - (aN + k)) (aN + k) p) ∧ wd_P D vwCl (wd_A w sg.heap.size) w H ∧ va_S (wd_A w sg.heap.size) sg.heap H locs ∧ lv_has ls 8 [(0, .ref m), (1, .int (nI tN)), (2, .int (nI aN)), (3, .int (nI nn)), (4, .int (lf (rs r).2 aN)), (5, .int p), (6, .int (nI k))]) (fun (k : Nat) (p : Int32) => nn - k) 1 (lf (rs r).2 aN - j_fbo (nI nn)) ⟨(by omega), (by omega), rfl, hW, hS, (lv_sub hl [3, 4, 5, 6, 2, 1, 0] rfl)⟩ (fun k p H locs ls hI ih_74 => ?_)
            obtain ⟨hk1, hk, hI, hW, hS, hl⟩ := hI
            refine lv_iload hx hb dX3_pointFrom_74 (lv_at hl 6 rfl) ?_
            refine lv_iload_n hx hb dX3_pointFrom_76 rfl (lv_at hl 3 rfl) ?_
            refine lv_icmp_ge (tgt := 127) hx hb dX3_pointFrom_77 (by decide) (fun c_77 => ?_) (fun c_77 => ?_)
            ·
              have c_77 : nn ≤ k := (nI_leI (by omega) (by omega)).mp (show (nI nn ≤ nI k) from c_77)
              refine lv_iload_n hx hb dX3_pointFrom_127 rfl (lv_at hl 3 rfl) ?_
              refine lv_iconst (v := 3) hx hb dX3_pointFrom_128 (by decide) ?_
              refine lv_icmp_lt (tgt := 178) hx hb dX3_pointFrom_129 (by decide) (fun c_129 => ?_) (fun c_129 => ?_)
              ·
                have c_129 : nn < 3 := (nI_ltI (by omega) (by omega)).mp (show (nI nn < nI 3) from c_129)
                refine lv_iconst (v := 1) hx hb dX3_pointFrom_178 (by decide) ?_
                refine lv_goto (tgt := 183) hx hb dX3_pointFrom_179 (by decide) ?_
                refine lv_istore (lv' := [(6, .int 1), (0, .ref m), (1, .int (nI tN)), (2, .int (nI aN)), (3, .int (nI nn)), (4, .int (lf (rs r).2 aN)), (5, .int p)]) hx hb dX3_pointFrom_183 hl (by decide) rfl (fun ls hl => ?_)
                refine lv_iload hx hb dX3_pointFrom_185 (lv_at hl 0 rfl) ?_
                refine lv_if_eq (tgt := 195) hx hb dX3_pointFrom_187 (by decide) (fun c_187 => ?_) (fun c_187 => ?_)
                ·
                  exact absurd c_187 (by decide)
                ·
                  refine lv_iload hx hb dX3_pointFrom_190 (lv_at hl 6 rfl) ?_
                  refine lv_goto (tgt := 196) hx hb dX3_pointFrom_192 (by decide) ?_
                  refine wd_iret hx hb hr hlocks hW hS dX3_pointFrom_196 ?_
                  refine ⟨?_, rfl⟩
                  rw [pf_in haN (by omega) hnn hbc c_1 (by omega), hI, j_pfl_out (Or.inl (nI_nlt (by omega) (by omega)))]
                  show _ = (if j_told p (nI nn) then p else -1)
                  rw [if_pos ((told_iff hnn (by omega)).mpr (Or.inl (by omega)))]
              ·
                have c_129 : ¬ (nn < 3) := fun q9 => absurd ((nI_ltI (by omega) (by omega)).mpr q9) (show ¬ (nI nn < nI 3) from c_129)
                refine lv_iload_n hx hb dX3_pointFrom_132 rfl (lv_at hl 3 rfl) ?_
                refine lv_iconst (v := 3) hx hb dX3_pointFrom_133 (by decide) ?_
                refine lv_icmp_ne (tgt := 161) hx hb dX3_pointFrom_134 (by decide) (fun c_134 => ?_) (fun c_134 => ?_)
                ·
                  have c_134 : ¬ (nn = 3) := fun q9 => absurd ((nI_eq (by omega) (by omega)).mpr q9) (show ¬ (nI nn = nI 3) from c_134)
                  refine lv_iload_n hx hb dX3_pointFrom_161 rfl (lv_at hl 3 rfl) ?_
                  refine lv_iconst (v := 4) hx hb dX3_pointFrom_162 (by decide) ?_
                  refine lv_icmp_ne (tgt := 182) hx hb dX3_pointFrom_163 (by decide) (fun c_163 => ?_) (fun c_163 => ?_)
                  ·
                    have c_163 : ¬ (nn = 4) := fun q9 => absurd ((nI_eq (by omega) (by omega)).mpr q9) (show ¬ (nI nn = nI 4) from c_163)
                    refine lv_iconst (v := 0) hx hb dX3_pointFrom_182 (by decide) ?_
                    refine lv_istore (lv' := [(6, .int 0), (0, .ref m), (1, .int (nI tN)), (2, .int (nI aN)), (3, .int (nI nn)), (4, .int (lf (rs r).2 aN)), (5, .int p)]) hx hb dX3_pointFrom_183 hl (by decide) rfl (fun ls hl => ?_)
                    refine lv_iload hx hb dX3_pointFrom_185 (lv_at hl 0 rfl) ?_
                    refine lv_if_eq (tgt := 195) hx hb dX3_pointFrom_187 (by decide) (fun c_187 => ?_) (fun c_187 => ?_)
                    ·
                      refine lv_iconst (v := (-1)) hx hb dX3_pointFrom_195 (by decide) ?_
                      refine wd_iret hx hb hr hlocks hW hS dX3_pointFrom_196 ?_
                      refine ⟨?_, rfl⟩
                      rw [pf_in haN (by omega) hnn hbc c_1 (by omega), hI, j_pfl_out (Or.inl (nI_nlt (by omega) (by omega)))]
                      show _ = (if j_told p (nI nn) then p else -1)
                      rw [if_neg]
                      intro q9
                      rcases (told_iff hnn (by omega)).mp q9 with h | h | h
                      · omega
                      · exact absurd h.1 c_134
                      · exact absurd h.1 c_163
                    ·
                      exact absurd rfl c_187
                  ·
                    have c_163 : nn = 4 := (nI_eq (by omega) (by omega)).mp (show (nI nn = nI 4) from c_163)
                    refine lv_iload hx hb dX3_pointFrom_166 (lv_at hl 5 rfl) ?_
                    refine lv_ldc (v := 65536) hx hb hown (hts (.constant RX3 70 65536) (by decide +kernel)) dX3_pointFrom_168 ?_
                    refine lv_ldc (v := 1114111) hx hb hown (hts (.constant RX3 48 1114111) (by decide +kernel)) dX3_pointFrom_170 ?_
                    refine wd_callSi (As := [.int p, .int 65536, .int 1114111]) (rest := []) (c2 := 0) (s2 := 0) ⟨hx, hb, hml, hown, hts⟩ (k_X3_within l D cI cT w H.size p 65536 1114111 ) (va_cwS 3 hts gX3_pointFrom_X3_within rfl rfl rfl (by decide +kernel) ⟨Nat.le_of_ble_eq_true rfl, Nat.le_of_ble_eq_true rfl⟩) gK_ok hK hW hS hA rfl hl.1 rfl (Nat.le_of_ble_eq_true rfl) dX3_pointFrom_172 ⟨Nat.le_of_ble_eq_true rfl, Nat.le_of_ble_eq_true rfl⟩ rfl rfl (fun r_172 w_172 H locs hp_172 hW hz hS => ?_)
                    obtain ⟨q_r, q_w⟩ := hp_172
                    subst r_172
                    subst w_172
                    refine lv_if_eq (tgt := 182) hx hb dX3_pointFrom_175 (by decide) (fun c_175 => ?_) (fun c_175 => ?_)
                    ·
                      have c_175 := j_b0 c_175
                      refine lv_iconst (v := 0) hx hb dX3_pointFrom_182 (by decide) ?_
                      refine lv_istore (lv' := [(6, .int 0), (0, .ref m), (1, .int (nI tN)), (2, .int (nI aN)), (3, .int (nI nn)), (4, .int (lf (rs r).2 aN)), (5, .int p)]) hx hb dX3_pointFrom_183 hl (by decide) rfl (fun ls hl => ?_)
                      refine lv_iload hx hb dX3_pointFrom_185 (lv_at hl 0 rfl) ?_
                      refine lv_if_eq (tgt := 195) hx hb dX3_pointFrom_187 (by decide) (fun c_187 => ?_) (fun c_187 => ?_)
                      ·
                        refine lv_iconst (v := (-1)) hx hb dX3_pointFrom_195 (by decide) ?_
                        refine wd_iret hx hb hr hlocks hW hS dX3_pointFrom_196 ?_
                        refine ⟨?_, rfl⟩
                        rw [pf_in haN (by omega) hnn hbc c_1 (by omega), hI, j_pfl_out (Or.inl (nI_nlt (by omega) (by omega)))]
                        show _ = (if j_told p (nI nn) then p else -1)
                        rw [if_neg]
                        intro q9
                        rcases (told_iff hnn (by omega)).mp q9 with h | h | h
                        · omega
                        · exact absurd h.1 c_134
                        · exact c_175 ⟨h.2.1, h.2.2⟩
                      ·
                        exact absurd rfl c_187
                    ·
                      have c_175 := j_bn c_175
                      refine lv_iconst (v := 1) hx hb dX3_pointFrom_178 (by decide) ?_
                      refine lv_goto (tgt := 183) hx hb dX3_pointFrom_179 (by decide) ?_
                      refine lv_istore (lv' := [(6, .int 1), (0, .ref m), (1, .int (nI tN)), (2, .int (nI aN)), (3, .int (nI nn)), (4, .int (lf (rs r).2 aN)), (5, .int p)]) hx hb dX3_pointFrom_183 hl (by decide) rfl (fun ls hl => ?_)
                      refine lv_iload hx hb dX3_pointFrom_185 (lv_at hl 0 rfl) ?_
                      refine lv_if_eq (tgt := 195) hx hb dX3_pointFrom_187 (by decide) (fun c_187 => ?_) (fun c_187 => ?_)
                      ·
                        exact absurd c_187 (by decide)
                      ·
                        refine lv_iload hx hb dX3_pointFrom_190 (lv_at hl 6 rfl) ?_
                        refine lv_goto (tgt := 196) hx hb dX3_pointFrom_192 (by decide) ?_
                        refine wd_iret hx hb hr hlocks hW hS dX3_pointFrom_196 ?_
                        refine ⟨?_, rfl⟩
                        rw [pf_in haN (by omega) hnn hbc c_1 (by omega), hI, j_pfl_out (Or.inl (nI_nlt (by omega) (by omega)))]
                        show _ = (if j_told p (nI nn) then p else -1)
                        rw [if_pos ((told_iff hnn (by omega)).mpr (Or.inr (Or.inr ⟨by omega, c_175.1, c_175.2⟩)))]
                ·
                  have c_134 : nn = 3 := (nI_eq (by omega) (by omega)).mp (show (nI nn = nI 3) from c_134)
                  refine lv_iload hx hb dX3_pointFrom_137 (lv_at hl 5 rfl) ?_
                  refine lv_sipush (v := 2048) hx hb dX3_pointFrom_139 (by decide) ?_
                  refine lv_icmp_lt (tgt := 161) hx hb dX3_pointFrom_142 (by decide) (fun c_142 => ?_) (fun c_142 => ?_)
                  ·
                    refine lv_iload_n hx hb dX3_pointFrom_161 rfl (lv_at hl 3 rfl) ?_
                    refine lv_iconst (v := 4) hx hb dX3_pointFrom_162 (by decide) ?_
                    refine lv_icmp_ne (tgt := 182) hx hb dX3_pointFrom_163 (by decide) (fun c_163 => ?_) (fun c_163 => ?_)
                    ·
                      have c_163 : ¬ (nn = 4) := fun q9 => absurd ((nI_eq (by omega) (by omega)).mpr q9) (show ¬ (nI nn = nI 4) from c_163)
                      refine lv_iconst (v := 0) hx hb dX3_pointFrom_182 (by decide) ?_
                      refine lv_istore (lv' := [(6, .int 0), (0, .ref m), (1, .int (nI tN)), (2, .int (nI aN)), (3, .int (nI nn)), (4, .int (lf (rs r).2 aN)), (5, .int p)]) hx hb dX3_pointFrom_183 hl (by decide) rfl (fun ls hl => ?_)
                      refine lv_iload hx hb dX3_pointFrom_185 (lv_at hl 0 rfl) ?_
                      refine lv_if_eq (tgt := 195) hx hb dX3_pointFrom_187 (by decide) (fun c_187 => ?_) (fun c_187 => ?_)
                      ·
                        refine lv_iconst (v := (-1)) hx hb dX3_pointFrom_195 (by decide) ?_
                        refine wd_iret hx hb hr hlocks hW hS dX3_pointFrom_196 ?_
                        refine ⟨?_, rfl⟩
                        rw [pf_in haN (by omega) hnn hbc c_1 (by omega), hI, j_pfl_out (Or.inl (nI_nlt (by omega) (by omega)))]
                        show _ = (if j_told p (nI nn) then p else -1)
                        rw [if_neg]
                        intro q9
                        rcases (told_iff hnn (by omega)).mp q9 with h | h | h
                        · omega
                        · (have h9 := h.2.1; rw [i_le] at h9; exact h9 c_142)
                        · exact absurd h.1 c_163
                      ·
                        exact absurd rfl c_187
                    ·
                      have c_163 : nn = 4 := (nI_eq (by omega) (by omega)).mp (show (nI nn = nI 4) from c_163)
                      refine lv_iload hx hb dX3_pointFrom_166 (lv_at hl 5 rfl) ?_
                      refine lv_ldc (v := 65536) hx hb hown (hts (.constant RX3 70 65536) (by decide +kernel)) dX3_pointFrom_168 ?_
                      refine lv_ldc (v := 1114111) hx hb hown (hts (.constant RX3 48 1114111) (by decide +kernel)) dX3_pointFrom_170 ?_
                      refine wd_callSi (As := [.int p, .int 65536, .int 1114111]) (rest := []) (c2 := 0) (s2 := 0) ⟨hx, hb, hml, hown, hts⟩ (k_X3_within l D cI cT w H.size p 65536 1114111 ) (va_cwS 3 hts gX3_pointFrom_X3_within rfl rfl rfl (by decide +kernel) ⟨Nat.le_of_ble_eq_true rfl, Nat.le_of_ble_eq_true rfl⟩) gK_ok hK hW hS hA rfl hl.1 rfl (Nat.le_of_ble_eq_true rfl) dX3_pointFrom_172 ⟨Nat.le_of_ble_eq_true rfl, Nat.le_of_ble_eq_true rfl⟩ rfl rfl (fun r_172 w_172 H locs hp_172 hW hz hS => ?_)
                      obtain ⟨q_r, q_w⟩ := hp_172
                      subst r_172
                      subst w_172
                      refine lv_if_eq (tgt := 182) hx hb dX3_pointFrom_175 (by decide) (fun c_175 => ?_) (fun c_175 => ?_)
                      ·
                        have c_175 := j_b0 c_175
                        refine lv_iconst (v := 0) hx hb dX3_pointFrom_182 (by decide) ?_
                        refine lv_istore (lv' := [(6, .int 0), (0, .ref m), (1, .int (nI tN)), (2, .int (nI aN)), (3, .int (nI nn)), (4, .int (lf (rs r).2 aN)), (5, .int p)]) hx hb dX3_pointFrom_183 hl (by decide) rfl (fun ls hl => ?_)
                        refine lv_iload hx hb dX3_pointFrom_185 (lv_at hl 0 rfl) ?_
                        refine lv_if_eq (tgt := 195) hx hb dX3_pointFrom_187 (by decide) (fun c_187 => ?_) (fun c_187 => ?_)
                        ·
                          refine lv_iconst (v := (-1)) hx hb dX3_pointFrom_195 (by decide) ?_
                          refine wd_iret hx hb hr hlocks hW hS dX3_pointFrom_196 ?_
                          refine ⟨?_, rfl⟩
                          rw [pf_in haN (by omega) hnn hbc c_1 (by omega), hI, j_pfl_out (Or.inl (nI_nlt (by omega) (by omega)))]
                          show _ = (if j_told p (nI nn) then p else -1)
                          rw [if_neg]
                          intro q9
                          rcases (told_iff hnn (by omega)).mp q9 with h | h | h
                          · omega
                          · (have h9 := h.2.1; rw [i_le] at h9; exact h9 c_142)
                          · exact c_175 ⟨h.2.1, h.2.2⟩
                        ·
                          exact absurd rfl c_187
                      ·
                        have c_175 := j_bn c_175
                        refine lv_iconst (v := 1) hx hb dX3_pointFrom_178 (by decide) ?_
                        refine lv_goto (tgt := 183) hx hb dX3_pointFrom_179 (by decide) ?_
                        refine lv_istore (lv' := [(6, .int 1), (0, .ref m), (1, .int (nI tN)), (2, .int (nI aN)), (3, .int (nI nn)), (4, .int (lf (rs r).2 aN)), (5, .int p)]) hx hb dX3_pointFrom_183 hl (by decide) rfl (fun ls hl => ?_)
                        refine lv_iload hx hb dX3_pointFrom_185 (lv_at hl 0 rfl) ?_
                        refine lv_if_eq (tgt := 195) hx hb dX3_pointFrom_187 (by decide) (fun c_187 => ?_) (fun c_187 => ?_)
                        ·
                          exact absurd c_187 (by decide)
                        ·
                          refine lv_iload hx hb dX3_pointFrom_190 (lv_at hl 6 rfl) ?_
                          refine lv_goto (tgt := 196) hx hb dX3_pointFrom_192 (by decide) ?_
                          refine wd_iret hx hb hr hlocks hW hS dX3_pointFrom_196 ?_
                          refine ⟨?_, rfl⟩
                          rw [pf_in haN (by omega) hnn hbc c_1 (by omega), hI, j_pfl_out (Or.inl (nI_nlt (by omega) (by omega)))]
                          show _ = (if j_told p (nI nn) then p else -1)
                          rw [if_pos ((told_iff hnn (by omega)).mpr (Or.inr (Or.inr ⟨by omega, c_175.1, c_175.2⟩)))]
                  ·
                    refine lv_iload hx hb dX3_pointFrom_145 (lv_at hl 5 rfl) ?_
                    refine wd_callSi (As := [.int p]) (rest := []) (c2 := 0) (s2 := 0) ⟨hx, hb, hml, hown, hts⟩ (k_X3_isHigh l D cI cT w H.size p ) (va_cwS 1 hts gX3_pointFrom_X3_isHigh rfl rfl rfl (by decide +kernel) ⟨Nat.le_of_ble_eq_true rfl, Nat.le_of_ble_eq_true rfl⟩) gK_ok hK hW hS hA rfl hl.1 rfl (Nat.le_of_ble_eq_true rfl) dX3_pointFrom_147 ⟨Nat.le_of_ble_eq_true rfl, Nat.le_of_ble_eq_true rfl⟩ rfl rfl (fun r_147 w_147 H locs hp_147 hW hz hS => ?_)
                    obtain ⟨q_r, q_w⟩ := hp_147
                    subst r_147
                    subst w_147
                    refine lv_if_ne (tgt := 161) hx hb dX3_pointFrom_150 (by decide) (fun c_150 => ?_) (fun c_150 => ?_)
                    ·
                      have c_150 := j_bn c_150
                      refine lv_iload_n hx hb dX3_pointFrom_161 rfl (lv_at hl 3 rfl) ?_
                      refine lv_iconst (v := 4) hx hb dX3_pointFrom_162 (by decide) ?_
                      refine lv_icmp_ne (tgt := 182) hx hb dX3_pointFrom_163 (by decide) (fun c_163 => ?_) (fun c_163 => ?_)
                      ·
                        have c_163 : ¬ (nn = 4) := fun q9 => absurd ((nI_eq (by omega) (by omega)).mpr q9) (show ¬ (nI nn = nI 4) from c_163)
                        refine lv_iconst (v := 0) hx hb dX3_pointFrom_182 (by decide) ?_
                        refine lv_istore (lv' := [(6, .int 0), (0, .ref m), (1, .int (nI tN)), (2, .int (nI aN)), (3, .int (nI nn)), (4, .int (lf (rs r).2 aN)), (5, .int p)]) hx hb dX3_pointFrom_183 hl (by decide) rfl (fun ls hl => ?_)
                        refine lv_iload hx hb dX3_pointFrom_185 (lv_at hl 0 rfl) ?_
                        refine lv_if_eq (tgt := 195) hx hb dX3_pointFrom_187 (by decide) (fun c_187 => ?_) (fun c_187 => ?_)
                        ·
                          refine lv_iconst (v := (-1)) hx hb dX3_pointFrom_195 (by decide) ?_
                          refine wd_iret hx hb hr hlocks hW hS dX3_pointFrom_196 ?_
                          refine ⟨?_, rfl⟩
                          rw [pf_in haN (by omega) hnn hbc c_1 (by omega), hI, j_pfl_out (Or.inl (nI_nlt (by omega) (by omega)))]
                          show _ = (if j_told p (nI nn) then p else -1)
                          rw [if_neg]
                          intro q9
                          rcases (told_iff hnn (by omega)).mp q9 with h | h | h
                          · omega
                          · exact h.2.2.1 c_150
                          · exact absurd h.1 c_163
                        ·
                          exact absurd rfl c_187
                      ·
                        have c_163 : nn = 4 := (nI_eq (by omega) (by omega)).mp (show (nI nn = nI 4) from c_163)
                        refine lv_iload hx hb dX3_pointFrom_166 (lv_at hl 5 rfl) ?_
                        refine lv_ldc (v := 65536) hx hb hown (hts (.constant RX3 70 65536) (by decide +kernel)) dX3_pointFrom_168 ?_
                        refine lv_ldc (v := 1114111) hx hb hown (hts (.constant RX3 48 1114111) (by decide +kernel)) dX3_pointFrom_170 ?_
                        refine wd_callSi (As := [.int p, .int 65536, .int 1114111]) (rest := []) (c2 := 0) (s2 := 0) ⟨hx, hb, hml, hown, hts⟩ (k_X3_within l D cI cT w H.size p 65536 1114111 ) (va_cwS 3 hts gX3_pointFrom_X3_within rfl rfl rfl (by decide +kernel) ⟨Nat.le_of_ble_eq_true rfl, Nat.le_of_ble_eq_true rfl⟩) gK_ok hK hW hS hA rfl hl.1 rfl (Nat.le_of_ble_eq_true rfl) dX3_pointFrom_172 ⟨Nat.le_of_ble_eq_true rfl, Nat.le_of_ble_eq_true rfl⟩ rfl rfl (fun r_172 w_172 H locs hp_172 hW hz hS => ?_)
                        obtain ⟨q_r, q_w⟩ := hp_172
                        subst r_172
                        subst w_172
                        refine lv_if_eq (tgt := 182) hx hb dX3_pointFrom_175 (by decide) (fun c_175 => ?_) (fun c_175 => ?_)
                        ·
                          have c_175 := j_b0 c_175
                          refine lv_iconst (v := 0) hx hb dX3_pointFrom_182 (by decide) ?_
                          refine lv_istore (lv' := [(6, .int 0), (0, .ref m), (1, .int (nI tN)), (2, .int (nI aN)), (3, .int (nI nn)), (4, .int (lf (rs r).2 aN)), (5, .int p)]) hx hb dX3_pointFrom_183 hl (by decide) rfl (fun ls hl => ?_)
                          refine lv_iload hx hb dX3_pointFrom_185 (lv_at hl 0 rfl) ?_
                          refine lv_if_eq (tgt := 195) hx hb dX3_pointFrom_187 (by decide) (fun c_187 => ?_) (fun c_187 => ?_)
                          ·
                            refine lv_iconst (v := (-1)) hx hb dX3_pointFrom_195 (by decide) ?_
                            refine wd_iret hx hb hr hlocks hW hS dX3_pointFrom_196 ?_
                            refine ⟨?_, rfl⟩
                            rw [pf_in haN (by omega) hnn hbc c_1 (by omega), hI, j_pfl_out (Or.inl (nI_nlt (by omega) (by omega)))]
                            show _ = (if j_told p (nI nn) then p else -1)
                            rw [if_neg]
                            intro q9
                            rcases (told_iff hnn (by omega)).mp q9 with h | h | h
                            · omega
                            · exact h.2.2.1 c_150
                            · exact c_175 ⟨h.2.1, h.2.2⟩
                          ·
                            exact absurd rfl c_187
                        ·
                          have c_175 := j_bn c_175
                          refine lv_iconst (v := 1) hx hb dX3_pointFrom_178 (by decide) ?_
                          refine lv_goto (tgt := 183) hx hb dX3_pointFrom_179 (by decide) ?_
                          refine lv_istore (lv' := [(6, .int 1), (0, .ref m), (1, .int (nI tN)), (2, .int (nI aN)), (3, .int (nI nn)), (4, .int (lf (rs r).2 aN)), (5, .int p)]) hx hb dX3_pointFrom_183 hl (by decide) rfl (fun ls hl => ?_)
                          refine lv_iload hx hb dX3_pointFrom_185 (lv_at hl 0 rfl) ?_
                          refine lv_if_eq (tgt := 195) hx hb dX3_pointFrom_187 (by decide) (fun c_187 => ?_) (fun c_187 => ?_)
                          ·
                            exact absurd c_187 (by decide)
                          ·
                            refine lv_iload hx hb dX3_pointFrom_190 (lv_at hl 6 rfl) ?_
                            refine lv_goto (tgt := 196) hx hb dX3_pointFrom_192 (by decide) ?_
                            refine wd_iret hx hb hr hlocks hW hS dX3_pointFrom_196 ?_
                            refine ⟨?_, rfl⟩
                            rw [pf_in haN (by omega) hnn hbc c_1 (by omega), hI, j_pfl_out (Or.inl (nI_nlt (by omega) (by omega)))]
                            show _ = (if j_told p (nI nn) then p else -1)
                            rw [if_pos ((told_iff hnn (by omega)).mpr (Or.inr (Or.inr ⟨by omega, c_175.1, c_175.2⟩)))]
                    ·
                      have c_150 := j_b0 c_150
                      refine lv_iload hx hb dX3_pointFrom_153 (lv_at hl 5 rfl) ?_
                      refine wd_callSi (As := [.int p]) (rest := []) (c2 := 0) (s2 := 0) ⟨hx, hb, hml, hown, hts⟩ (k_X3_isLow l D cI cT w H.size p ) (va_cwS 1 hts gX3_pointFrom_X3_isLow rfl rfl rfl (by decide +kernel) ⟨Nat.le_of_ble_eq_true rfl, Nat.le_of_ble_eq_true rfl⟩) gK_ok hK hW hS hA rfl hl.1 rfl (Nat.le_of_ble_eq_true rfl) dX3_pointFrom_155 ⟨Nat.le_of_ble_eq_true rfl, Nat.le_of_ble_eq_true rfl⟩ rfl rfl (fun r_155 w_155 H locs hp_155 hW hz hS => ?_)
                      obtain ⟨q_r, q_w⟩ := hp_155
                      subst r_155
                      subst w_155
                      refine lv_if_eq (tgt := 178) hx hb dX3_pointFrom_158 (by decide) (fun c_158 => ?_) (fun c_158 => ?_)
                      ·
                        have c_158 := j_b0 c_158
                        refine lv_iconst (v := 1) hx hb dX3_pointFrom_178 (by decide) ?_
                        refine lv_goto (tgt := 183) hx hb dX3_pointFrom_179 (by decide) ?_
                        refine lv_istore (lv' := [(6, .int 1), (0, .ref m), (1, .int (nI tN)), (2, .int (nI aN)), (3, .int (nI nn)), (4, .int (lf (rs r).2 aN)), (5, .int p)]) hx hb dX3_pointFrom_183 hl (by decide) rfl (fun ls hl => ?_)
                        refine lv_iload hx hb dX3_pointFrom_185 (lv_at hl 0 rfl) ?_
                        refine lv_if_eq (tgt := 195) hx hb dX3_pointFrom_187 (by decide) (fun c_187 => ?_) (fun c_187 => ?_)
                        ·
                          exact absurd c_187 (by decide)
                        ·
                          refine lv_iload hx hb dX3_pointFrom_190 (lv_at hl 6 rfl) ?_
                          refine lv_goto (tgt := 196) hx hb dX3_pointFrom_192 (by decide) ?_
                          refine wd_iret hx hb hr hlocks hW hS dX3_pointFrom_196 ?_
                          refine ⟨?_, rfl⟩
                          rw [pf_in haN (by omega) hnn hbc c_1 (by omega), hI, j_pfl_out (Or.inl (nI_nlt (by omega) (by omega)))]
                          show _ = (if j_told p (nI nn) then p else -1)
                          rw [if_pos ((told_iff hnn (by omega)).mpr (Or.inr (Or.inl ⟨by omega, by rw [i_le]; exact c_142, c_150, c_158⟩)))]
                      ·
                        have c_158 := j_bn c_158
                        refine lv_iload_n hx hb dX3_pointFrom_161 rfl (lv_at hl 3 rfl) ?_
                        refine lv_iconst (v := 4) hx hb dX3_pointFrom_162 (by decide) ?_
                        refine lv_icmp_ne (tgt := 182) hx hb dX3_pointFrom_163 (by decide) (fun c_163 => ?_) (fun c_163 => ?_)
                        ·
                          have c_163 : ¬ (nn = 4) := fun q9 => absurd ((nI_eq (by omega) (by omega)).mpr q9) (show ¬ (nI nn = nI 4) from c_163)
                          refine lv_iconst (v := 0) hx hb dX3_pointFrom_182 (by decide) ?_
                          refine lv_istore (lv' := [(6, .int 0), (0, .ref m), (1, .int (nI tN)), (2, .int (nI aN)), (3, .int (nI nn)), (4, .int (lf (rs r).2 aN)), (5, .int p)]) hx hb dX3_pointFrom_183 hl (by decide) rfl (fun ls hl => ?_)
                          refine lv_iload hx hb dX3_pointFrom_185 (lv_at hl 0 rfl) ?_
                          refine lv_if_eq (tgt := 195) hx hb dX3_pointFrom_187 (by decide) (fun c_187 => ?_) (fun c_187 => ?_)
                          ·
                            refine lv_iconst (v := (-1)) hx hb dX3_pointFrom_195 (by decide) ?_
                            refine wd_iret hx hb hr hlocks hW hS dX3_pointFrom_196 ?_
                            refine ⟨?_, rfl⟩
                            rw [pf_in haN (by omega) hnn hbc c_1 (by omega), hI, j_pfl_out (Or.inl (nI_nlt (by omega) (by omega)))]
                            show _ = (if j_told p (nI nn) then p else -1)
                            rw [if_neg]
                            intro q9
                            rcases (told_iff hnn (by omega)).mp q9 with h | h | h
                            · omega
                            · exact h.2.2.2 c_158
                            · exact absurd h.1 c_163
                          ·
                            exact absurd rfl c_187
                        ·
                          have c_163 : nn = 4 := (nI_eq (by omega) (by omega)).mp (show (nI nn = nI 4) from c_163)
                          refine lv_iload hx hb dX3_pointFrom_166 (lv_at hl 5 rfl) ?_
                          refine lv_ldc (v := 65536) hx hb hown (hts (.constant RX3 70 65536) (by decide +kernel)) dX3_pointFrom_168 ?_
                          refine lv_ldc (v := 1114111) hx hb hown (hts (.constant RX3 48 1114111) (by decide +kernel)) dX3_pointFrom_170 ?_
                          refine wd_callSi (As := [.int p, .int 65536, .int 1114111]) (rest := []) (c2 := 0) (s2 := 0) ⟨hx, hb, hml, hown, hts⟩ (k_X3_within l D cI cT w H.size p 65536 1114111 ) (va_cwS 3 hts gX3_pointFrom_X3_within rfl rfl rfl (by decide +kernel) ⟨Nat.le_of_ble_eq_true rfl, Nat.le_of_ble_eq_true rfl⟩) gK_ok hK hW hS hA rfl hl.1 rfl (Nat.le_of_ble_eq_true rfl) dX3_pointFrom_172 ⟨Nat.le_of_ble_eq_true rfl, Nat.le_of_ble_eq_true rfl⟩ rfl rfl (fun r_172 w_172 H locs hp_172 hW hz hS => ?_)
                          obtain ⟨q_r, q_w⟩ := hp_172
                          subst r_172
                          subst w_172
                          refine lv_if_eq (tgt := 182) hx hb dX3_pointFrom_175 (by decide) (fun c_175 => ?_) (fun c_175 => ?_)
                          ·
                            have c_175 := j_b0 c_175
                            refine lv_iconst (v := 0) hx hb dX3_pointFrom_182 (by decide) ?_
                            refine lv_istore (lv' := [(6, .int 0), (0, .ref m), (1, .int (nI tN)), (2, .int (nI aN)), (3, .int (nI nn)), (4, .int (lf (rs r).2 aN)), (5, .int p)]) hx hb dX3_pointFrom_183 hl (by decide) rfl (fun ls hl => ?_)
                            refine lv_iload hx hb dX3_pointFrom_185 (lv_at hl 0 rfl) ?_
                            refine lv_if_eq (tgt := 195) hx hb dX3_pointFrom_187 (by decide) (fun c_187 => ?_) (fun c_187 => ?_)
                            ·
                              refine lv_iconst (v := (-1)) hx hb dX3_pointFrom_195 (by decide) ?_
                              refine wd_iret hx hb hr hlocks hW hS dX3_pointFrom_196 ?_
                              refine ⟨?_, rfl⟩
                              rw [pf_in haN (by omega) hnn hbc c_1 (by omega), hI, j_pfl_out (Or.inl (nI_nlt (by omega) (by omega)))]
                              show _ = (if j_told p (nI nn) then p else -1)
                              rw [if_neg]
                              intro q9
                              rcases (told_iff hnn (by omega)).mp q9 with h | h | h
                              · omega
                              · exact h.2.2.2 c_158
                              · exact c_175 ⟨h.2.1, h.2.2⟩
                            ·
                              exact absurd rfl c_187
                          ·
                            have c_175 := j_bn c_175
                            refine lv_iconst (v := 1) hx hb dX3_pointFrom_178 (by decide) ?_
                            refine lv_goto (tgt := 183) hx hb dX3_pointFrom_179 (by decide) ?_
                            refine lv_istore (lv' := [(6, .int 1), (0, .ref m), (1, .int (nI tN)), (2, .int (nI aN)), (3, .int (nI nn)), (4, .int (lf (rs r).2 aN)), (5, .int p)]) hx hb dX3_pointFrom_183 hl (by decide) rfl (fun ls hl => ?_)
                            refine lv_iload hx hb dX3_pointFrom_185 (lv_at hl 0 rfl) ?_
                            refine lv_if_eq (tgt := 195) hx hb dX3_pointFrom_187 (by decide) (fun c_187 => ?_) (fun c_187 => ?_)
                            ·
                              exact absurd c_187 (by decide)
                            ·
                              refine lv_iload hx hb dX3_pointFrom_190 (lv_at hl 6 rfl) ?_
                              refine lv_goto (tgt := 196) hx hb dX3_pointFrom_192 (by decide) ?_
                              refine wd_iret hx hb hr hlocks hW hS dX3_pointFrom_196 ?_
                              refine ⟨?_, rfl⟩
                              rw [pf_in haN (by omega) hnn hbc c_1 (by omega), hI, j_pfl_out (Or.inl (nI_nlt (by omega) (by omega)))]
                              show _ = (if j_told p (nI nn) then p else -1)
                              rw [if_pos ((told_iff hnn (by omega)).mpr (Or.inr (Or.inr ⟨by omega, c_175.1, c_175.2⟩)))]
            ·
              have c_77 : ¬ (nn ≤ k) := fun q9 => absurd ((nI_leI (by omega) (by omega)).mpr q9) (show ¬ (nI nn ≤ nI k) from c_77)
              refine lv_aload_n hx hb dX3_pointFrom_80 rfl (lv_at hl 0 rfl) ?_
              refine lv_iload_n hx hb dX3_pointFrom_81 rfl (lv_at hl 1 rfl) ?_
              refine lv_iload_n hx hb dX3_pointFrom_82 rfl (lv_at hl 2 rfl) ?_
              refine lv_iload hx hb dX3_pointFrom_83 (lv_at hl 6 rfl) ?_
              refine lv_iadd hx hb dX3_pointFrom_85 ?_
              refine wd_topE (y := nI (aN + k)) (nI_add _ _) ?_
              refine wd_callVi (As := [.int (nI tN), .int (nI (aN + k))]) (rest := []) (c2 := 0) (s2 := 0) ⟨hx, hb, hml, hown, hts⟩ (k_X3_item l D cI cT w H.size m A fK (fun r => (rs r).1) (fun r => nI (rs r).2.length) fI kc cd pl XD XP XU XO XB tx rs tN r (aN + k) hR (by omega) htx hr24 hit (by omega)) (cwV 2 hts gX3_pointFrom_X3_item rfl rfl rfl (by decide +kernel) ⟨Nat.le_of_ble_eq_true rfl, Nat.le_of_ble_eq_true rfl⟩) gK_ok hK hW (wd_recv (ci := 3) hK.1 hW rfl hR.1) hS hA rfl hl.1 rfl (Nat.le_of_ble_eq_true rfl) dX3_pointFrom_86 ⟨Nat.le_of_ble_eq_true rfl, Nat.le_of_ble_eq_true rfl⟩ rfl rfl (fun r_86 w_86 H locs hp_86 hW hz hS => ?_)
              obtain ⟨q_r, q_w⟩ := hp_86
              subst r_86
              subst w_86
              refine lv_istore (lv' := [(7, .int (lf (rs r).2 (aN + k))), (0, .ref m), (1, .int (nI tN)), (2, .int (nI aN)), (3, .int (nI nn)), (4, .int (lf (rs r).2 aN)), (5, .int p), (6, .int (nI k))]) hx hb dX3_pointFrom_89 hl (by decide) rfl (fun ls hl => ?_)
              refine lv_iload hx hb dX3_pointFrom_91 (lv_at hl 0 rfl) ?_
              refine lv_sipush (v := 128) hx hb dX3_pointFrom_93 (by decide) ?_
              refine lv_sipush (v := 191) hx hb dX3_pointFrom_96 (by decide) ?_
              refine wd_callSi (As := [.int (lf (rs r).2 (aN + k)), .int 128, .int 191]) (rest := []) (c2 := 0) (s2 := 0) ⟨hx, hb, hml, hown, hts⟩ (k_X3_within l D cI cT w H.size (lf (rs r).2 (aN + k)) 128 191 ) (va_cwS 3 hts gX3_pointFrom_X3_within rfl rfl rfl (by decide +kernel) ⟨Nat.le_of_ble_eq_true rfl, Nat.le_of_ble_eq_true rfl⟩) gK_ok hK hW hS hA rfl hl.1 rfl (Nat.le_of_ble_eq_true rfl) dX3_pointFrom_99 ⟨Nat.le_of_ble_eq_true rfl, Nat.le_of_ble_eq_true rfl⟩ rfl rfl (fun r_99 w_99 H locs hp_99 hW hz hS => ?_)
              obtain ⟨q_r, q_w⟩ := hp_99
              subst r_99
              subst w_99
              refine lv_if_ne (tgt := 107) hx hb dX3_pointFrom_102 (by decide) (fun c_102 => ?_) (fun c_102 => ?_)
              ·
                have c_102 := j_bn c_102
                refine lv_bipush (v := 64) hx hb dX3_pointFrom_107 (by decide) ?_
                refine lv_iload hx hb dX3_pointFrom_109 (lv_at hl 6 rfl) ?_
                refine lv_imul hx hb dX3_pointFrom_111 ?_
                refine lv_iload hx hb dX3_pointFrom_112 (lv_at hl 0 rfl) ?_
                refine lv_iadd hx hb dX3_pointFrom_114 ?_
                refine lv_sipush (v := 128) hx hb dX3_pointFrom_115 (by decide) ?_
                refine lv_isub hx hb dX3_pointFrom_118 ?_
                refine wd_topE (y := p * 64 + (lf (rs r).2 (aN + k) - 128)) (pf_step _ _) ?_
                refine lv_istore (lv' := [(5, .int (p * 64 + (lf (rs r).2 (aN + k) - 128))), (7, .int (lf (rs r).2 (aN + k))), (0, .ref m), (1, .int (nI tN)), (2, .int (nI aN)), (3, .int (nI nn)), (4, .int (lf (rs r).2 aN)), (6, .int (nI k))]) hx hb dX3_pointFrom_119 hl (by decide) rfl (fun ls hl => ?_)
                refine lv_iinc (v := nI (k + 1)) (lv' := [(6, .int (nI (k + 1))), (5, .int (p * 64 + (lf (rs r).2 (aN + k) - 128))), (7, .int (lf (rs r).2 (aN + k))), (0, .ref m), (1, .int (nI tN)), (2, .int (nI aN)), (3, .int (nI nn)), (4, .int (lf (rs r).2 aN))]) hx hb dX3_pointFrom_121 hl (k := 7) rfl (nI_add k 1) (by decide) rfl (fun ls hl => ?_)
                refine lv_goto (tgt := 74) hx hb dX3_pointFrom_124 (by decide) ?_
                exact ih_74 (k + 1) (p * 64 + (lf (rs r).2 (aN + k) - 128)) H locs ls ⟨(by omega), (by omega), (hI.trans ((j_pfl_go (nI_lt (by omega) (by omega)) (by omega) (rng_in c_102) (by omega)).trans (by rw [show (rs r).2.length - (aN + k) - 1 = (rs r).2.length - (aN + (k + 1)) by omega]; rfl))), hW, hS, (lv_sub hl [3, 4, 5, 6, 7, 1, 0] rfl)⟩ (by omega)
              ·
                have c_102 := j_b0 c_102
                refine lv_iconst (v := (-1)) hx hb dX3_pointFrom_105 (by decide) ?_
                refine wd_iret hx hb hr hlocks hW hS dX3_pointFrom_106 ?_
                exact ⟨by rw [pf_in haN (by omega) hnn hbc c_1 (by omega), hI, j_pfl_bad (nI_lt (by omega) (by omega)) (by omega) (rng_out c_102) (by omega)], rfl⟩
        ·
          have c_37 : nn = 2 := (nI_eq (by omega) (by omega)).mp (show (nI nn = nI 2) from c_37)
          refine lv_iload hx hb dX3_pointFrom_40 (lv_at hl 0 rfl) ?_
          refine lv_sipush (v := 192) hx hb dX3_pointFrom_42 (by decide) ?_
          refine lv_isub hx hb dX3_pointFrom_45 ?_
          refine lv_goto (tgt := 69) hx hb dX3_pointFrom_46 (by decide) ?_
          refine wd_topE (y := (lf (rs r).2 aN - j_fbo (nI nn))) (by rw [c_37, fbo_2]) ?_
          refine lv_istore (lv' := [(5, .int (lf (rs r).2 aN - j_fbo (nI nn))), (4, .int (lf (rs r).2 aN)), (0, .ref m), (1, .int (nI tN)), (2, .int (nI aN)), (3, .int (nI nn))]) hx hb dX3_pointFrom_69 hl (by decide) rfl (fun ls hl => ?_)
          refine lv_iconst (v := 1) hx hb dX3_pointFrom_71 (by decide) ?_
          refine lv_istore (lv' := [(6, .int 1), (5, .int (lf (rs r).2 aN - j_fbo (nI nn))), (4, .int (lf (rs r).2 aN)), (0, .ref m), (1, .int (nI tN)), (2, .int (nI aN)), (3, .int (nI nn))]) hx hb dX3_pointFrom_72 hl (by decide) rfl (fun ls hl => ?_)
          refine wd_loop2 (fun (k : Nat) (p : Int32) (H : Heap) (locs : List Loc) (ls : Array Slot) => (1 ≤ k) ∧ (k ≤ nn) ∧ (j_pfl (lf (rs r).2) (rs r).2.length (nI (aN + nn)) ((rs r).2.length - (aN + 1)) (aN + 1) (lf (rs r).2 aN - j_fbo (nI nn)) = j_pfl (lf (rs r).2) (rs r).2.length (nI (aN + nn)) ((rs r).2.length - (aN + k)) (aN + k) p) ∧ wd_P D vwCl (wd_A w sg.heap.size) w H ∧ va_S (wd_A w sg.heap.size) sg.heap H locs ∧ lv_has ls 8 [(0, .ref m), (1, .int (nI tN)), (2, .int (nI aN)), (3, .int (nI nn)), (4, .int (lf (rs r).2 aN)), (5, .int p), (6, .int (nI k))]) (fun (k : Nat) (p : Int32) => nn - k) 1 (lf (rs r).2 aN - j_fbo (nI nn)) ⟨(by omega), (by omega), rfl, hW, hS, (lv_sub hl [3, 4, 5, 6, 2, 1, 0] rfl)⟩ (fun k p H locs ls hI ih_74 => ?_)
          obtain ⟨hk1, hk, hI, hW, hS, hl⟩ := hI
          refine lv_iload hx hb dX3_pointFrom_74 (lv_at hl 6 rfl) ?_
          refine lv_iload_n hx hb dX3_pointFrom_76 rfl (lv_at hl 3 rfl) ?_
          refine lv_icmp_ge (tgt := 127) hx hb dX3_pointFrom_77 (by decide) (fun c_77 => ?_) (fun c_77 => ?_)
          ·
            have c_77 : nn ≤ k := (nI_leI (by omega) (by omega)).mp (show (nI nn ≤ nI k) from c_77)
            refine lv_iload_n hx hb dX3_pointFrom_127 rfl (lv_at hl 3 rfl) ?_
            refine lv_iconst (v := 3) hx hb dX3_pointFrom_128 (by decide) ?_
            refine lv_icmp_lt (tgt := 178) hx hb dX3_pointFrom_129 (by decide) (fun c_129 => ?_) (fun c_129 => ?_)
            ·
              have c_129 : nn < 3 := (nI_ltI (by omega) (by omega)).mp (show (nI nn < nI 3) from c_129)
              refine lv_iconst (v := 1) hx hb dX3_pointFrom_178 (by decide) ?_
              refine lv_goto (tgt := 183) hx hb dX3_pointFrom_179 (by decide) ?_
              refine lv_istore (lv' := [(6, .int 1), (0, .ref m), (1, .int (nI tN)), (2, .int (nI aN)), (3, .int (nI nn)), (4, .int (lf (rs r).2 aN)), (5, .int p)]) hx hb dX3_pointFrom_183 hl (by decide) rfl (fun ls hl => ?_)
              refine lv_iload hx hb dX3_pointFrom_185 (lv_at hl 0 rfl) ?_
              refine lv_if_eq (tgt := 195) hx hb dX3_pointFrom_187 (by decide) (fun c_187 => ?_) (fun c_187 => ?_)
              ·
                exact absurd c_187 (by decide)
              ·
                refine lv_iload hx hb dX3_pointFrom_190 (lv_at hl 6 rfl) ?_
                refine lv_goto (tgt := 196) hx hb dX3_pointFrom_192 (by decide) ?_
                refine wd_iret hx hb hr hlocks hW hS dX3_pointFrom_196 ?_
                refine ⟨?_, rfl⟩
                rw [pf_in haN (by omega) hnn hbc c_1 (by omega), hI, j_pfl_out (Or.inl (nI_nlt (by omega) (by omega)))]
                show _ = (if j_told p (nI nn) then p else -1)
                rw [if_pos ((told_iff hnn (by omega)).mpr (Or.inl (by omega)))]
            ·
              have c_129 : ¬ (nn < 3) := fun q9 => absurd ((nI_ltI (by omega) (by omega)).mpr q9) (show ¬ (nI nn < nI 3) from c_129)
              refine lv_iload_n hx hb dX3_pointFrom_132 rfl (lv_at hl 3 rfl) ?_
              refine lv_iconst (v := 3) hx hb dX3_pointFrom_133 (by decide) ?_
              refine lv_icmp_ne (tgt := 161) hx hb dX3_pointFrom_134 (by decide) (fun c_134 => ?_) (fun c_134 => ?_)
              ·
                have c_134 : ¬ (nn = 3) := fun q9 => absurd ((nI_eq (by omega) (by omega)).mpr q9) (show ¬ (nI nn = nI 3) from c_134)
                refine lv_iload_n hx hb dX3_pointFrom_161 rfl (lv_at hl 3 rfl) ?_
                refine lv_iconst (v := 4) hx hb dX3_pointFrom_162 (by decide) ?_
                refine lv_icmp_ne (tgt := 182) hx hb dX3_pointFrom_163 (by decide) (fun c_163 => ?_) (fun c_163 => ?_)
                ·
                  have c_163 : ¬ (nn = 4) := fun q9 => absurd ((nI_eq (by omega) (by omega)).mpr q9) (show ¬ (nI nn = nI 4) from c_163)
                  refine lv_iconst (v := 0) hx hb dX3_pointFrom_182 (by decide) ?_
                  refine lv_istore (lv' := [(6, .int 0), (0, .ref m), (1, .int (nI tN)), (2, .int (nI aN)), (3, .int (nI nn)), (4, .int (lf (rs r).2 aN)), (5, .int p)]) hx hb dX3_pointFrom_183 hl (by decide) rfl (fun ls hl => ?_)
                  refine lv_iload hx hb dX3_pointFrom_185 (lv_at hl 0 rfl) ?_
                  refine lv_if_eq (tgt := 195) hx hb dX3_pointFrom_187 (by decide) (fun c_187 => ?_) (fun c_187 => ?_)
                  ·
                    refine lv_iconst (v := (-1)) hx hb dX3_pointFrom_195 (by decide) ?_
                    refine wd_iret hx hb hr hlocks hW hS dX3_pointFrom_196 ?_
                    refine ⟨?_, rfl⟩
                    rw [pf_in haN (by omega) hnn hbc c_1 (by omega), hI, j_pfl_out (Or.inl (nI_nlt (by omega) (by omega)))]
                    show _ = (if j_told p (nI nn) then p else -1)
                    rw [if_neg]
                    intro q9
                    rcases (told_iff hnn (by omega)).mp q9 with h | h | h
                    · omega
                    · exact absurd h.1 c_134
                    · exact absurd h.1 c_163
                  ·
                    exact absurd rfl c_187
                ·
                  have c_163 : nn = 4 := (nI_eq (by omega) (by omega)).mp (show (nI nn = nI 4) from c_163)
                  refine lv_iload hx hb dX3_pointFrom_166 (lv_at hl 5 rfl) ?_
                  refine lv_ldc (v := 65536) hx hb hown (hts (.constant RX3 70 65536) (by decide +kernel)) dX3_pointFrom_168 ?_
                  refine lv_ldc (v := 1114111) hx hb hown (hts (.constant RX3 48 1114111) (by decide +kernel)) dX3_pointFrom_170 ?_
                  refine wd_callSi (As := [.int p, .int 65536, .int 1114111]) (rest := []) (c2 := 0) (s2 := 0) ⟨hx, hb, hml, hown, hts⟩ (k_X3_within l D cI cT w H.size p 65536 1114111 ) (va_cwS 3 hts gX3_pointFrom_X3_within rfl rfl rfl (by decide +kernel) ⟨Nat.le_of_ble_eq_true rfl, Nat.le_of_ble_eq_true rfl⟩) gK_ok hK hW hS hA rfl hl.1 rfl (Nat.le_of_ble_eq_true rfl) dX3_pointFrom_172 ⟨Nat.le_of_ble_eq_true rfl, Nat.le_of_ble_eq_true rfl⟩ rfl rfl (fun r_172 w_172 H locs hp_172 hW hz hS => ?_)
                  obtain ⟨q_r, q_w⟩ := hp_172
                  subst r_172
                  subst w_172
                  refine lv_if_eq (tgt := 182) hx hb dX3_pointFrom_175 (by decide) (fun c_175 => ?_) (fun c_175 => ?_)
                  ·
                    have c_175 := j_b0 c_175
                    refine lv_iconst (v := 0) hx hb dX3_pointFrom_182 (by decide) ?_
                    refine lv_istore (lv' := [(6, .int 0), (0, .ref m), (1, .int (nI tN)), (2, .int (nI aN)), (3, .int (nI nn)), (4, .int (lf (rs r).2 aN)), (5, .int p)]) hx hb dX3_pointFrom_183 hl (by decide) rfl (fun ls hl => ?_)
                    refine lv_iload hx hb dX3_pointFrom_185 (lv_at hl 0 rfl) ?_
                    refine lv_if_eq (tgt := 195) hx hb dX3_pointFrom_187 (by decide) (fun c_187 => ?_) (fun c_187 => ?_)
                    ·
                      refine lv_iconst (v := (-1)) hx hb dX3_pointFrom_195 (by decide) ?_
                      refine wd_iret hx hb hr hlocks hW hS dX3_pointFrom_196 ?_
                      refine ⟨?_, rfl⟩
                      rw [pf_in haN (by omega) hnn hbc c_1 (by omega), hI, j_pfl_out (Or.inl (nI_nlt (by omega) (by omega)))]
                      show _ = (if j_told p (nI nn) then p else -1)
                      rw [if_neg]
                      intro q9
                      rcases (told_iff hnn (by omega)).mp q9 with h | h | h
                      · omega
                      · exact absurd h.1 c_134
                      · exact c_175 ⟨h.2.1, h.2.2⟩
                    ·
                      exact absurd rfl c_187
                  ·
                    have c_175 := j_bn c_175
                    refine lv_iconst (v := 1) hx hb dX3_pointFrom_178 (by decide) ?_
                    refine lv_goto (tgt := 183) hx hb dX3_pointFrom_179 (by decide) ?_
                    refine lv_istore (lv' := [(6, .int 1), (0, .ref m), (1, .int (nI tN)), (2, .int (nI aN)), (3, .int (nI nn)), (4, .int (lf (rs r).2 aN)), (5, .int p)]) hx hb dX3_pointFrom_183 hl (by decide) rfl (fun ls hl => ?_)
                    refine lv_iload hx hb dX3_pointFrom_185 (lv_at hl 0 rfl) ?_
                    refine lv_if_eq (tgt := 195) hx hb dX3_pointFrom_187 (by decide) (fun c_187 => ?_) (fun c_187 => ?_)
                    ·
                      exact absurd c_187 (by decide)
                    ·
                      refine lv_iload hx hb dX3_pointFrom_190 (lv_at hl 6 rfl) ?_
                      refine lv_goto (tgt := 196) hx hb dX3_pointFrom_192 (by decide) ?_
                      refine wd_iret hx hb hr hlocks hW hS dX3_pointFrom_196 ?_
                      refine ⟨?_, rfl⟩
                      rw [pf_in haN (by omega) hnn hbc c_1 (by omega), hI, j_pfl_out (Or.inl (nI_nlt (by omega) (by omega)))]
                      show _ = (if j_told p (nI nn) then p else -1)
                      rw [if_pos ((told_iff hnn (by omega)).mpr (Or.inr (Or.inr ⟨by omega, c_175.1, c_175.2⟩)))]
              ·
                have c_134 : nn = 3 := (nI_eq (by omega) (by omega)).mp (show (nI nn = nI 3) from c_134)
                refine lv_iload hx hb dX3_pointFrom_137 (lv_at hl 5 rfl) ?_
                refine lv_sipush (v := 2048) hx hb dX3_pointFrom_139 (by decide) ?_
                refine lv_icmp_lt (tgt := 161) hx hb dX3_pointFrom_142 (by decide) (fun c_142 => ?_) (fun c_142 => ?_)
                ·
                  refine lv_iload_n hx hb dX3_pointFrom_161 rfl (lv_at hl 3 rfl) ?_
                  refine lv_iconst (v := 4) hx hb dX3_pointFrom_162 (by decide) ?_
                  refine lv_icmp_ne (tgt := 182) hx hb dX3_pointFrom_163 (by decide) (fun c_163 => ?_) (fun c_163 => ?_)
                  ·
                    have c_163 : ¬ (nn = 4) := fun q9 => absurd ((nI_eq (by omega) (by omega)).mpr q9) (show ¬ (nI nn = nI 4) from c_163)
                    refine lv_iconst (v := 0) hx hb dX3_pointFrom_182 (by decide) ?_
                    refine lv_istore (lv' := [(6, .int 0), (0, .ref m), (1, .int (nI tN)), (2, .int (nI aN)), (3, .int (nI nn)), (4, .int (lf (rs r).2 aN)), (5, .int p)]) hx hb dX3_pointFrom_183 hl (by decide) rfl (fun ls hl => ?_)
                    refine lv_iload hx hb dX3_pointFrom_185 (lv_at hl 0 rfl) ?_
                    refine lv_if_eq (tgt := 195) hx hb dX3_pointFrom_187 (by decide) (fun c_187 => ?_) (fun c_187 => ?_)
                    ·
                      refine lv_iconst (v := (-1)) hx hb dX3_pointFrom_195 (by decide) ?_
                      refine wd_iret hx hb hr hlocks hW hS dX3_pointFrom_196 ?_
                      refine ⟨?_, rfl⟩
                      rw [pf_in haN (by omega) hnn hbc c_1 (by omega), hI, j_pfl_out (Or.inl (nI_nlt (by omega) (by omega)))]
                      show _ = (if j_told p (nI nn) then p else -1)
                      rw [if_neg]
                      intro q9
                      rcases (told_iff hnn (by omega)).mp q9 with h | h | h
                      · omega
                      · (have h9 := h.2.1; rw [i_le] at h9; exact h9 c_142)
                      · exact absurd h.1 c_163
                    ·
                      exact absurd rfl c_187
                  ·
                    have c_163 : nn = 4 := (nI_eq (by omega) (by omega)).mp (show (nI nn = nI 4) from c_163)
                    refine lv_iload hx hb dX3_pointFrom_166 (lv_at hl 5 rfl) ?_
                    refine lv_ldc (v := 65536) hx hb hown (hts (.constant RX3 70 65536) (by decide +kernel)) dX3_pointFrom_168 ?_
                    refine lv_ldc (v := 1114111) hx hb hown (hts (.constant RX3 48 1114111) (by decide +kernel)) dX3_pointFrom_170 ?_
                    refine wd_callSi (As := [.int p, .int 65536, .int 1114111]) (rest := []) (c2 := 0) (s2 := 0) ⟨hx, hb, hml, hown, hts⟩ (k_X3_within l D cI cT w H.size p 65536 1114111 ) (va_cwS 3 hts gX3_pointFrom_X3_within rfl rfl rfl (by decide +kernel) ⟨Nat.le_of_ble_eq_true rfl, Nat.le_of_ble_eq_true rfl⟩) gK_ok hK hW hS hA rfl hl.1 rfl (Nat.le_of_ble_eq_true rfl) dX3_pointFrom_172 ⟨Nat.le_of_ble_eq_true rfl, Nat.le_of_ble_eq_true rfl⟩ rfl rfl (fun r_172 w_172 H locs hp_172 hW hz hS => ?_)
                    obtain ⟨q_r, q_w⟩ := hp_172
                    subst r_172
                    subst w_172
                    refine lv_if_eq (tgt := 182) hx hb dX3_pointFrom_175 (by decide) (fun c_175 => ?_) (fun c_175 => ?_)
                    ·
                      have c_175 := j_b0 c_175
                      refine lv_iconst (v := 0) hx hb dX3_pointFrom_182 (by decide) ?_
                      refine lv_istore (lv' := [(6, .int 0), (0, .ref m), (1, .int (nI tN)), (2, .int (nI aN)), (3, .int (nI nn)), (4, .int (lf (rs r).2 aN)), (5, .int p)]) hx hb dX3_pointFrom_183 hl (by decide) rfl (fun ls hl => ?_)
                      refine lv_iload hx hb dX3_pointFrom_185 (lv_at hl 0 rfl) ?_
                      refine lv_if_eq (tgt := 195) hx hb dX3_pointFrom_187 (by decide) (fun c_187 => ?_) (fun c_187 => ?_)
                      ·
                        refine lv_iconst (v := (-1)) hx hb dX3_pointFrom_195 (by decide) ?_
                        refine wd_iret hx hb hr hlocks hW hS dX3_pointFrom_196 ?_
                        refine ⟨?_, rfl⟩
                        rw [pf_in haN (by omega) hnn hbc c_1 (by omega), hI, j_pfl_out (Or.inl (nI_nlt (by omega) (by omega)))]
                        show _ = (if j_told p (nI nn) then p else -1)
                        rw [if_neg]
                        intro q9
                        rcases (told_iff hnn (by omega)).mp q9 with h | h | h
                        · omega
                        · (have h9 := h.2.1; rw [i_le] at h9; exact h9 c_142)
                        · exact c_175 ⟨h.2.1, h.2.2⟩
                      ·
                        exact absurd rfl c_187
                    ·
                      have c_175 := j_bn c_175
                      refine lv_iconst (v := 1) hx hb dX3_pointFrom_178 (by decide) ?_
                      refine lv_goto (tgt := 183) hx hb dX3_pointFrom_179 (by decide) ?_
                      refine lv_istore (lv' := [(6, .int 1), (0, .ref m), (1, .int (nI tN)), (2, .int (nI aN)), (3, .int (nI nn)), (4, .int (lf (rs r).2 aN)), (5, .int p)]) hx hb dX3_pointFrom_183 hl (by decide) rfl (fun ls hl => ?_)
                      refine lv_iload hx hb dX3_pointFrom_185 (lv_at hl 0 rfl) ?_
                      refine lv_if_eq (tgt := 195) hx hb dX3_pointFrom_187 (by decide) (fun c_187 => ?_) (fun c_187 => ?_)
                      ·
                        exact absurd c_187 (by decide)
                      ·
                        refine lv_iload hx hb dX3_pointFrom_190 (lv_at hl 6 rfl) ?_
                        refine lv_goto (tgt := 196) hx hb dX3_pointFrom_192 (by decide) ?_
                        refine wd_iret hx hb hr hlocks hW hS dX3_pointFrom_196 ?_
                        refine ⟨?_, rfl⟩
                        rw [pf_in haN (by omega) hnn hbc c_1 (by omega), hI, j_pfl_out (Or.inl (nI_nlt (by omega) (by omega)))]
                        show _ = (if j_told p (nI nn) then p else -1)
                        rw [if_pos ((told_iff hnn (by omega)).mpr (Or.inr (Or.inr ⟨by omega, c_175.1, c_175.2⟩)))]
                ·
                  refine lv_iload hx hb dX3_pointFrom_145 (lv_at hl 5 rfl) ?_
                  refine wd_callSi (As := [.int p]) (rest := []) (c2 := 0) (s2 := 0) ⟨hx, hb, hml, hown, hts⟩ (k_X3_isHigh l D cI cT w H.size p ) (va_cwS 1 hts gX3_pointFrom_X3_isHigh rfl rfl rfl (by decide +kernel) ⟨Nat.le_of_ble_eq_true rfl, Nat.le_of_ble_eq_true rfl⟩) gK_ok hK hW hS hA rfl hl.1 rfl (Nat.le_of_ble_eq_true rfl) dX3_pointFrom_147 ⟨Nat.le_of_ble_eq_true rfl, Nat.le_of_ble_eq_true rfl⟩ rfl rfl (fun r_147 w_147 H locs hp_147 hW hz hS => ?_)
                  obtain ⟨q_r, q_w⟩ := hp_147
                  subst r_147
                  subst w_147
                  refine lv_if_ne (tgt := 161) hx hb dX3_pointFrom_150 (by decide) (fun c_150 => ?_) (fun c_150 => ?_)
                  ·
                    have c_150 := j_bn c_150
                    refine lv_iload_n hx hb dX3_pointFrom_161 rfl (lv_at hl 3 rfl) ?_
                    refine lv_iconst (v := 4) hx hb dX3_pointFrom_162 (by decide) ?_
                    refine lv_icmp_ne (tgt := 182) hx hb dX3_pointFrom_163 (by decide) (fun c_163 => ?_) (fun c_163 => ?_)
                    ·
                      have c_163 : ¬ (nn = 4) := fun q9 => absurd ((nI_eq (by omega) (by omega)).mpr q9) (show ¬ (nI nn = nI 4) from c_163)
                      refine lv_iconst (v := 0) hx hb dX3_pointFrom_182 (by decide) ?_
                      refine lv_istore (lv' := [(6, .int 0), (0, .ref m), (1, .int (nI tN)), (2, .int (nI aN)), (3, .int (nI nn)), (4, .int (lf (rs r).2 aN)), (5, .int p)]) hx hb dX3_pointFrom_183 hl (by decide) rfl (fun ls hl => ?_)
                      refine lv_iload hx hb dX3_pointFrom_185 (lv_at hl 0 rfl) ?_
                      refine lv_if_eq (tgt := 195) hx hb dX3_pointFrom_187 (by decide) (fun c_187 => ?_) (fun c_187 => ?_)
                      ·
                        refine lv_iconst (v := (-1)) hx hb dX3_pointFrom_195 (by decide) ?_
                        refine wd_iret hx hb hr hlocks hW hS dX3_pointFrom_196 ?_
                        refine ⟨?_, rfl⟩
                        rw [pf_in haN (by omega) hnn hbc c_1 (by omega), hI, j_pfl_out (Or.inl (nI_nlt (by omega) (by omega)))]
                        show _ = (if j_told p (nI nn) then p else -1)
                        rw [if_neg]
                        intro q9
                        rcases (told_iff hnn (by omega)).mp q9 with h | h | h
                        · omega
                        · exact h.2.2.1 c_150
                        · exact absurd h.1 c_163
                      ·
                        exact absurd rfl c_187
                    ·
                      have c_163 : nn = 4 := (nI_eq (by omega) (by omega)).mp (show (nI nn = nI 4) from c_163)
                      refine lv_iload hx hb dX3_pointFrom_166 (lv_at hl 5 rfl) ?_
                      refine lv_ldc (v := 65536) hx hb hown (hts (.constant RX3 70 65536) (by decide +kernel)) dX3_pointFrom_168 ?_
                      refine lv_ldc (v := 1114111) hx hb hown (hts (.constant RX3 48 1114111) (by decide +kernel)) dX3_pointFrom_170 ?_
                      refine wd_callSi (As := [.int p, .int 65536, .int 1114111]) (rest := []) (c2 := 0) (s2 := 0) ⟨hx, hb, hml, hown, hts⟩ (k_X3_within l D cI cT w H.size p 65536 1114111 ) (va_cwS 3 hts gX3_pointFrom_X3_within rfl rfl rfl (by decide +kernel) ⟨Nat.le_of_ble_eq_true rfl, Nat.le_of_ble_eq_true rfl⟩) gK_ok hK hW hS hA rfl hl.1 rfl (Nat.le_of_ble_eq_true rfl) dX3_pointFrom_172 ⟨Nat.le_of_ble_eq_true rfl, Nat.le_of_ble_eq_true rfl⟩ rfl rfl (fun r_172 w_172 H locs hp_172 hW hz hS => ?_)
                      obtain ⟨q_r, q_w⟩ := hp_172
                      subst r_172
                      subst w_172
                      refine lv_if_eq (tgt := 182) hx hb dX3_pointFrom_175 (by decide) (fun c_175 => ?_) (fun c_175 => ?_)
                      ·
                        have c_175 := j_b0 c_175
                        refine lv_iconst (v := 0) hx hb dX3_pointFrom_182 (by decide) ?_
                        refine lv_istore (lv' := [(6, .int 0), (0, .ref m), (1, .int (nI tN)), (2, .int (nI aN)), (3, .int (nI nn)), (4, .int (lf (rs r).2 aN)), (5, .int p)]) hx hb dX3_pointFrom_183 hl (by decide) rfl (fun ls hl => ?_)
                        refine lv_iload hx hb dX3_pointFrom_185 (lv_at hl 0 rfl) ?_
                        refine lv_if_eq (tgt := 195) hx hb dX3_pointFrom_187 (by decide) (fun c_187 => ?_) (fun c_187 => ?_)
                        ·
                          refine lv_iconst (v := (-1)) hx hb dX3_pointFrom_195 (by decide) ?_
                          refine wd_iret hx hb hr hlocks hW hS dX3_pointFrom_196 ?_
                          refine ⟨?_, rfl⟩
                          rw [pf_in haN (by omega) hnn hbc c_1 (by omega), hI, j_pfl_out (Or.inl (nI_nlt (by omega) (by omega)))]
                          show _ = (if j_told p (nI nn) then p else -1)
                          rw [if_neg]
                          intro q9
                          rcases (told_iff hnn (by omega)).mp q9 with h | h | h
                          · omega
                          · exact h.2.2.1 c_150
                          · exact c_175 ⟨h.2.1, h.2.2⟩
                        ·
                          exact absurd rfl c_187
                      ·
                        have c_175 := j_bn c_175
                        refine lv_iconst (v := 1) hx hb dX3_pointFrom_178 (by decide) ?_
                        refine lv_goto (tgt := 183) hx hb dX3_pointFrom_179 (by decide) ?_
                        refine lv_istore (lv' := [(6, .int 1), (0, .ref m), (1, .int (nI tN)), (2, .int (nI aN)), (3, .int (nI nn)), (4, .int (lf (rs r).2 aN)), (5, .int p)]) hx hb dX3_pointFrom_183 hl (by decide) rfl (fun ls hl => ?_)
                        refine lv_iload hx hb dX3_pointFrom_185 (lv_at hl 0 rfl) ?_
                        refine lv_if_eq (tgt := 195) hx hb dX3_pointFrom_187 (by decide) (fun c_187 => ?_) (fun c_187 => ?_)
                        ·
                          exact absurd c_187 (by decide)
                        ·
                          refine lv_iload hx hb dX3_pointFrom_190 (lv_at hl 6 rfl) ?_
                          refine lv_goto (tgt := 196) hx hb dX3_pointFrom_192 (by decide) ?_
                          refine wd_iret hx hb hr hlocks hW hS dX3_pointFrom_196 ?_
                          refine ⟨?_, rfl⟩
                          rw [pf_in haN (by omega) hnn hbc c_1 (by omega), hI, j_pfl_out (Or.inl (nI_nlt (by omega) (by omega)))]
                          show _ = (if j_told p (nI nn) then p else -1)
                          rw [if_pos ((told_iff hnn (by omega)).mpr (Or.inr (Or.inr ⟨by omega, c_175.1, c_175.2⟩)))]
                  ·
                    have c_150 := j_b0 c_150
                    refine lv_iload hx hb dX3_pointFrom_153 (lv_at hl 5 rfl) ?_
                    refine wd_callSi (As := [.int p]) (rest := []) (c2 := 0) (s2 := 0) ⟨hx, hb, hml, hown, hts⟩ (k_X3_isLow l D cI cT w H.size p ) (va_cwS 1 hts gX3_pointFrom_X3_isLow rfl rfl rfl (by decide +kernel) ⟨Nat.le_of_ble_eq_true rfl, Nat.le_of_ble_eq_true rfl⟩) gK_ok hK hW hS hA rfl hl.1 rfl (Nat.le_of_ble_eq_true rfl) dX3_pointFrom_155 ⟨Nat.le_of_ble_eq_true rfl, Nat.le_of_ble_eq_true rfl⟩ rfl rfl (fun r_155 w_155 H locs hp_155 hW hz hS => ?_)
                    obtain ⟨q_r, q_w⟩ := hp_155
                    subst r_155
                    subst w_155
                    refine lv_if_eq (tgt := 178) hx hb dX3_pointFrom_158 (by decide) (fun c_158 => ?_) (fun c_158 => ?_)
                    ·
                      have c_158 := j_b0 c_158
                      refine lv_iconst (v := 1) hx hb dX3_pointFrom_178 (by decide) ?_
                      refine lv_goto (tgt := 183) hx hb dX3_pointFrom_179 (by decide) ?_
                      refine lv_istore (lv' := [(6, .int 1), (0, .ref m), (1, .int (nI tN)), (2, .int (nI aN)), (3, .int (nI nn)), (4, .int (lf (rs r).2 aN)), (5, .int p)]) hx hb dX3_pointFrom_183 hl (by decide) rfl (fun ls hl => ?_)
                      refine lv_iload hx hb dX3_pointFrom_185 (lv_at hl 0 rfl) ?_
                      refine lv_if_eq (tgt := 195) hx hb dX3_pointFrom_187 (by decide) (fun c_187 => ?_) (fun c_187 => ?_)
                      ·
                        exact absurd c_187 (by decide)
                      ·
                        refine lv_iload hx hb dX3_pointFrom_190 (lv_at hl 6 rfl) ?_
                        refine lv_goto (tgt := 196) hx hb dX3_pointFrom_192 (by decide) ?_
                        refine wd_iret hx hb hr hlocks hW hS dX3_pointFrom_196 ?_
                        refine ⟨?_, rfl⟩
                        rw [pf_in haN (by omega) hnn hbc c_1 (by omega), hI, j_pfl_out (Or.inl (nI_nlt (by omega) (by omega)))]
                        show _ = (if j_told p (nI nn) then p else -1)
                        rw [if_pos ((told_iff hnn (by omega)).mpr (Or.inr (Or.inl ⟨by omega, by rw [i_le]; exact c_142, c_150, c_158⟩)))]
                    ·
                      have c_158 := j_bn c_158
                      refine lv_iload_n hx hb dX3_pointFrom_161 rfl (lv_at hl 3 rfl) ?_
                      refine lv_iconst (v := 4) hx hb dX3_pointFrom_162 (by decide) ?_
                      refine lv_icmp_ne (tgt := 182) hx hb dX3_pointFrom_163 (by decide) (fun c_163 => ?_) (fun c_163 => ?_)
                      ·
                        have c_163 : ¬ (nn = 4) := fun q9 => absurd ((nI_eq (by omega) (by omega)).mpr q9) (show ¬ (nI nn = nI 4) from c_163)
                        refine lv_iconst (v := 0) hx hb dX3_pointFrom_182 (by decide) ?_
                        refine lv_istore (lv' := [(6, .int 0), (0, .ref m), (1, .int (nI tN)), (2, .int (nI aN)), (3, .int (nI nn)), (4, .int (lf (rs r).2 aN)), (5, .int p)]) hx hb dX3_pointFrom_183 hl (by decide) rfl (fun ls hl => ?_)
                        refine lv_iload hx hb dX3_pointFrom_185 (lv_at hl 0 rfl) ?_
                        refine lv_if_eq (tgt := 195) hx hb dX3_pointFrom_187 (by decide) (fun c_187 => ?_) (fun c_187 => ?_)
                        ·
                          refine lv_iconst (v := (-1)) hx hb dX3_pointFrom_195 (by decide) ?_
                          refine wd_iret hx hb hr hlocks hW hS dX3_pointFrom_196 ?_
                          refine ⟨?_, rfl⟩
                          rw [pf_in haN (by omega) hnn hbc c_1 (by omega), hI, j_pfl_out (Or.inl (nI_nlt (by omega) (by omega)))]
                          show _ = (if j_told p (nI nn) then p else -1)
                          rw [if_neg]
                          intro q9
                          rcases (told_iff hnn (by omega)).mp q9 with h | h | h
                          · omega
                          · exact h.2.2.2 c_158
                          · exact absurd h.1 c_163
                        ·
                          exact absurd rfl c_187
                      ·
                        have c_163 : nn = 4 := (nI_eq (by omega) (by omega)).mp (show (nI nn = nI 4) from c_163)
                        refine lv_iload hx hb dX3_pointFrom_166 (lv_at hl 5 rfl) ?_
                        refine lv_ldc (v := 65536) hx hb hown (hts (.constant RX3 70 65536) (by decide +kernel)) dX3_pointFrom_168 ?_
                        refine lv_ldc (v := 1114111) hx hb hown (hts (.constant RX3 48 1114111) (by decide +kernel)) dX3_pointFrom_170 ?_
                        refine wd_callSi (As := [.int p, .int 65536, .int 1114111]) (rest := []) (c2 := 0) (s2 := 0) ⟨hx, hb, hml, hown, hts⟩ (k_X3_within l D cI cT w H.size p 65536 1114111 ) (va_cwS 3 hts gX3_pointFrom_X3_within rfl rfl rfl (by decide +kernel) ⟨Nat.le_of_ble_eq_true rfl, Nat.le_of_ble_eq_true rfl⟩) gK_ok hK hW hS hA rfl hl.1 rfl (Nat.le_of_ble_eq_true rfl) dX3_pointFrom_172 ⟨Nat.le_of_ble_eq_true rfl, Nat.le_of_ble_eq_true rfl⟩ rfl rfl (fun r_172 w_172 H locs hp_172 hW hz hS => ?_)
                        obtain ⟨q_r, q_w⟩ := hp_172
                        subst r_172
                        subst w_172
                        refine lv_if_eq (tgt := 182) hx hb dX3_pointFrom_175 (by decide) (fun c_175 => ?_) (fun c_175 => ?_)
                        ·
                          have c_175 := j_b0 c_175
                          refine lv_iconst (v := 0) hx hb dX3_pointFrom_182 (by decide) ?_
                          refine lv_istore (lv' := [(6, .int 0), (0, .ref m), (1, .int (nI tN)), (2, .int (nI aN)), (3, .int (nI nn)), (4, .int (lf (rs r).2 aN)), (5, .int p)]) hx hb dX3_pointFrom_183 hl (by decide) rfl (fun ls hl => ?_)
                          refine lv_iload hx hb dX3_pointFrom_185 (lv_at hl 0 rfl) ?_
                          refine lv_if_eq (tgt := 195) hx hb dX3_pointFrom_187 (by decide) (fun c_187 => ?_) (fun c_187 => ?_)
                          ·
                            refine lv_iconst (v := (-1)) hx hb dX3_pointFrom_195 (by decide) ?_
                            refine wd_iret hx hb hr hlocks hW hS dX3_pointFrom_196 ?_
                            refine ⟨?_, rfl⟩
                            rw [pf_in haN (by omega) hnn hbc c_1 (by omega), hI, j_pfl_out (Or.inl (nI_nlt (by omega) (by omega)))]
                            show _ = (if j_told p (nI nn) then p else -1)
                            rw [if_neg]
                            intro q9
                            rcases (told_iff hnn (by omega)).mp q9 with h | h | h
                            · omega
                            · exact h.2.2.2 c_158
                            · exact c_175 ⟨h.2.1, h.2.2⟩
                          ·
                            exact absurd rfl c_187
                        ·
                          have c_175 := j_bn c_175
                          refine lv_iconst (v := 1) hx hb dX3_pointFrom_178 (by decide) ?_
                          refine lv_goto (tgt := 183) hx hb dX3_pointFrom_179 (by decide) ?_
                          refine lv_istore (lv' := [(6, .int 1), (0, .ref m), (1, .int (nI tN)), (2, .int (nI aN)), (3, .int (nI nn)), (4, .int (lf (rs r).2 aN)), (5, .int p)]) hx hb dX3_pointFrom_183 hl (by decide) rfl (fun ls hl => ?_)
                          refine lv_iload hx hb dX3_pointFrom_185 (lv_at hl 0 rfl) ?_
                          refine lv_if_eq (tgt := 195) hx hb dX3_pointFrom_187 (by decide) (fun c_187 => ?_) (fun c_187 => ?_)
                          ·
                            exact absurd c_187 (by decide)
                          ·
                            refine lv_iload hx hb dX3_pointFrom_190 (lv_at hl 6 rfl) ?_
                            refine lv_goto (tgt := 196) hx hb dX3_pointFrom_192 (by decide) ?_
                            refine wd_iret hx hb hr hlocks hW hS dX3_pointFrom_196 ?_
                            refine ⟨?_, rfl⟩
                            rw [pf_in haN (by omega) hnn hbc c_1 (by omega), hI, j_pfl_out (Or.inl (nI_nlt (by omega) (by omega)))]
                            show _ = (if j_told p (nI nn) then p else -1)
                            rw [if_pos ((told_iff hnn (by omega)).mpr (Or.inr (Or.inr ⟨by omega, c_175.1, c_175.2⟩)))]
          ·
            have c_77 : ¬ (nn ≤ k) := fun q9 => absurd ((nI_leI (by omega) (by omega)).mpr q9) (show ¬ (nI nn ≤ nI k) from c_77)
            refine lv_aload_n hx hb dX3_pointFrom_80 rfl (lv_at hl 0 rfl) ?_
            refine lv_iload_n hx hb dX3_pointFrom_81 rfl (lv_at hl 1 rfl) ?_
            refine lv_iload_n hx hb dX3_pointFrom_82 rfl (lv_at hl 2 rfl) ?_
            refine lv_iload hx hb dX3_pointFrom_83 (lv_at hl 6 rfl) ?_
            refine lv_iadd hx hb dX3_pointFrom_85 ?_
            refine wd_topE (y := nI (aN + k)) (nI_add _ _) ?_
            refine wd_callVi (As := [.int (nI tN), .int (nI (aN + k))]) (rest := []) (c2 := 0) (s2 := 0) ⟨hx, hb, hml, hown, hts⟩ (k_X3_item l D cI cT w H.size m A fK (fun r => (rs r).1) (fun r => nI (rs r).2.length) fI kc cd pl XD XP XU XO XB tx rs tN r (aN + k) hR (by omega) htx hr24 hit (by omega)) (cwV 2 hts gX3_pointFrom_X3_item rfl rfl rfl (by decide +kernel) ⟨Nat.le_of_ble_eq_true rfl, Nat.le_of_ble_eq_true rfl⟩) gK_ok hK hW (wd_recv (ci := 3) hK.1 hW rfl hR.1) hS hA rfl hl.1 rfl (Nat.le_of_ble_eq_true rfl) dX3_pointFrom_86 ⟨Nat.le_of_ble_eq_true rfl, Nat.le_of_ble_eq_true rfl⟩ rfl rfl (fun r_86 w_86 H locs hp_86 hW hz hS => ?_)
            obtain ⟨q_r, q_w⟩ := hp_86
            subst r_86
            subst w_86
            refine lv_istore (lv' := [(7, .int (lf (rs r).2 (aN + k))), (0, .ref m), (1, .int (nI tN)), (2, .int (nI aN)), (3, .int (nI nn)), (4, .int (lf (rs r).2 aN)), (5, .int p), (6, .int (nI k))]) hx hb dX3_pointFrom_89 hl (by decide) rfl (fun ls hl => ?_)
            refine lv_iload hx hb dX3_pointFrom_91 (lv_at hl 0 rfl) ?_
            refine lv_sipush (v := 128) hx hb dX3_pointFrom_93 (by decide) ?_
            refine lv_sipush (v := 191) hx hb dX3_pointFrom_96 (by decide) ?_
            refine wd_callSi (As := [.int (lf (rs r).2 (aN + k)), .int 128, .int 191]) (rest := []) (c2 := 0) (s2 := 0) ⟨hx, hb, hml, hown, hts⟩ (k_X3_within l D cI cT w H.size (lf (rs r).2 (aN + k)) 128 191 ) (va_cwS 3 hts gX3_pointFrom_X3_within rfl rfl rfl (by decide +kernel) ⟨Nat.le_of_ble_eq_true rfl, Nat.le_of_ble_eq_true rfl⟩) gK_ok hK hW hS hA rfl hl.1 rfl (Nat.le_of_ble_eq_true rfl) dX3_pointFrom_99 ⟨Nat.le_of_ble_eq_true rfl, Nat.le_of_ble_eq_true rfl⟩ rfl rfl (fun r_99 w_99 H locs hp_99 hW hz hS => ?_)
            obtain ⟨q_r, q_w⟩ := hp_99
            subst r_99
            subst w_99
            refine lv_if_ne (tgt := 107) hx hb dX3_pointFrom_102 (by decide) (fun c_102 => ?_) (fun c_102 => ?_)
            ·
              have c_102 := j_bn c_102
              refine lv_bipush (v := 64) hx hb dX3_pointFrom_107 (by decide) ?_
              refine lv_iload hx hb dX3_pointFrom_109 (lv_at hl 6 rfl) ?_
              refine lv_imul hx hb dX3_pointFrom_111 ?_
              refine lv_iload hx hb dX3_pointFrom_112 (lv_at hl 0 rfl) ?_
              refine lv_iadd hx hb dX3_pointFrom_114 ?_
              refine lv_sipush (v := 128) hx hb dX3_pointFrom_115 (by decide) ?_
              refine lv_isub hx hb dX3_pointFrom_118 ?_
              refine wd_topE (y := p * 64 + (lf (rs r).2 (aN + k) - 128)) (pf_step _ _) ?_
              refine lv_istore (lv' := [(5, .int (p * 64 + (lf (rs r).2 (aN + k) - 128))), (7, .int (lf (rs r).2 (aN + k))), (0, .ref m), (1, .int (nI tN)), (2, .int (nI aN)), (3, .int (nI nn)), (4, .int (lf (rs r).2 aN)), (6, .int (nI k))]) hx hb dX3_pointFrom_119 hl (by decide) rfl (fun ls hl => ?_)
              refine lv_iinc (v := nI (k + 1)) (lv' := [(6, .int (nI (k + 1))), (5, .int (p * 64 + (lf (rs r).2 (aN + k) - 128))), (7, .int (lf (rs r).2 (aN + k))), (0, .ref m), (1, .int (nI tN)), (2, .int (nI aN)), (3, .int (nI nn)), (4, .int (lf (rs r).2 aN))]) hx hb dX3_pointFrom_121 hl (k := 7) rfl (nI_add k 1) (by decide) rfl (fun ls hl => ?_)
              refine lv_goto (tgt := 74) hx hb dX3_pointFrom_124 (by decide) ?_
              exact ih_74 (k + 1) (p * 64 + (lf (rs r).2 (aN + k) - 128)) H locs ls ⟨(by omega), (by omega), (hI.trans ((j_pfl_go (nI_lt (by omega) (by omega)) (by omega) (rng_in c_102) (by omega)).trans (by rw [show (rs r).2.length - (aN + k) - 1 = (rs r).2.length - (aN + (k + 1)) by omega]; rfl))), hW, hS, (lv_sub hl [3, 4, 5, 6, 7, 1, 0] rfl)⟩ (by omega)
            ·
              have c_102 := j_b0 c_102
              refine lv_iconst (v := (-1)) hx hb dX3_pointFrom_105 (by decide) ?_
              refine wd_iret hx hb hr hlocks hW hS dX3_pointFrom_106 ?_
              exact ⟨by rw [pf_in haN (by omega) hnn hbc c_1 (by omega), hI, j_pfl_bad (nI_lt (by omega) (by omega)) (by omega) (rng_out c_102) (by omega)], rfl⟩
      ·
        have c_27 : nn = 1 := (nI_eq (by omega) (by omega)).mp (show (nI nn = nI 1) from c_27)
        refine lv_iload hx hb dX3_pointFrom_30 (lv_at hl 0 rfl) ?_
        refine lv_goto (tgt := 69) hx hb dX3_pointFrom_32 (by decide) ?_
        refine wd_topE (y := (lf (rs r).2 aN - j_fbo (nI nn))) (by rw [c_27, fbo_1]; exact (Int32.sub_zero _).symm) ?_
        refine lv_istore (lv' := [(5, .int (lf (rs r).2 aN - j_fbo (nI nn))), (4, .int (lf (rs r).2 aN)), (0, .ref m), (1, .int (nI tN)), (2, .int (nI aN)), (3, .int (nI nn))]) hx hb dX3_pointFrom_69 hl (by decide) rfl (fun ls hl => ?_)
        refine lv_iconst (v := 1) hx hb dX3_pointFrom_71 (by decide) ?_
        refine lv_istore (lv' := [(6, .int 1), (5, .int (lf (rs r).2 aN - j_fbo (nI nn))), (4, .int (lf (rs r).2 aN)), (0, .ref m), (1, .int (nI tN)), (2, .int (nI aN)), (3, .int (nI nn))]) hx hb dX3_pointFrom_72 hl (by decide) rfl (fun ls hl => ?_)
        refine wd_loop2 (fun (k : Nat) (p : Int32) (H : Heap) (locs : List Loc) (ls : Array Slot) => (1 ≤ k) ∧ (k ≤ nn) ∧ (j_pfl (lf (rs r).2) (rs r).2.length (nI (aN + nn)) ((rs r).2.length - (aN + 1)) (aN + 1) (lf (rs r).2 aN - j_fbo (nI nn)) = j_pfl (lf (rs r).2) (rs r).2.length (nI (aN + nn)) ((rs r).2.length - (aN + k)) (aN + k) p) ∧ wd_P D vwCl (wd_A w sg.heap.size) w H ∧ va_S (wd_A w sg.heap.size) sg.heap H locs ∧ lv_has ls 8 [(0, .ref m), (1, .int (nI tN)), (2, .int (nI aN)), (3, .int (nI nn)), (4, .int (lf (rs r).2 aN)), (5, .int p), (6, .int (nI k))]) (fun (k : Nat) (p : Int32) => nn - k) 1 (lf (rs r).2 aN - j_fbo (nI nn)) ⟨(by omega), (by omega), rfl, hW, hS, (lv_sub hl [3, 4, 5, 6, 2, 1, 0] rfl)⟩ (fun k p H locs ls hI ih_74 => ?_)
        obtain ⟨hk1, hk, hI, hW, hS, hl⟩ := hI
        refine lv_iload hx hb dX3_pointFrom_74 (lv_at hl 6 rfl) ?_
        refine lv_iload_n hx hb dX3_pointFrom_76 rfl (lv_at hl 3 rfl) ?_
        refine lv_icmp_ge (tgt := 127) hx hb dX3_pointFrom_77 (by decide) (fun c_77 => ?_) (fun c_77 => ?_)
        ·
          have c_77 : nn ≤ k := (nI_leI (by omega) (by omega)).mp (show (nI nn ≤ nI k) from c_77)
          refine lv_iload_n hx hb dX3_pointFrom_127 rfl (lv_at hl 3 rfl) ?_
          refine lv_iconst (v := 3) hx hb dX3_pointFrom_128 (by decide) ?_
          refine lv_icmp_lt (tgt := 178) hx hb dX3_pointFrom_129 (by decide) (fun c_129 => ?_) (fun c_129 => ?_)
          ·
            have c_129 : nn < 3 := (nI_ltI (by omega) (by omega)).mp (show (nI nn < nI 3) from c_129)
            refine lv_iconst (v := 1) hx hb dX3_pointFrom_178 (by decide) ?_
            refine lv_goto (tgt := 183) hx hb dX3_pointFrom_179 (by decide) ?_
            refine lv_istore (lv' := [(6, .int 1), (0, .ref m), (1, .int (nI tN)), (2, .int (nI aN)), (3, .int (nI nn)), (4, .int (lf (rs r).2 aN)), (5, .int p)]) hx hb dX3_pointFrom_183 hl (by decide) rfl (fun ls hl => ?_)
            refine lv_iload hx hb dX3_pointFrom_185 (lv_at hl 0 rfl) ?_
            refine lv_if_eq (tgt := 195) hx hb dX3_pointFrom_187 (by decide) (fun c_187 => ?_) (fun c_187 => ?_)
            ·
              exact absurd c_187 (by decide)
            ·
              refine lv_iload hx hb dX3_pointFrom_190 (lv_at hl 6 rfl) ?_
              refine lv_goto (tgt := 196) hx hb dX3_pointFrom_192 (by decide) ?_
              refine wd_iret hx hb hr hlocks hW hS dX3_pointFrom_196 ?_
              refine ⟨?_, rfl⟩
              rw [pf_in haN (by omega) hnn hbc c_1 (by omega), hI, j_pfl_out (Or.inl (nI_nlt (by omega) (by omega)))]
              show _ = (if j_told p (nI nn) then p else -1)
              rw [if_pos ((told_iff hnn (by omega)).mpr (Or.inl (by omega)))]
          ·
            have c_129 : ¬ (nn < 3) := fun q9 => absurd ((nI_ltI (by omega) (by omega)).mpr q9) (show ¬ (nI nn < nI 3) from c_129)
            refine lv_iload_n hx hb dX3_pointFrom_132 rfl (lv_at hl 3 rfl) ?_
            refine lv_iconst (v := 3) hx hb dX3_pointFrom_133 (by decide) ?_
            refine lv_icmp_ne (tgt := 161) hx hb dX3_pointFrom_134 (by decide) (fun c_134 => ?_) (fun c_134 => ?_)
            ·
              have c_134 : ¬ (nn = 3) := fun q9 => absurd ((nI_eq (by omega) (by omega)).mpr q9) (show ¬ (nI nn = nI 3) from c_134)
              refine lv_iload_n hx hb dX3_pointFrom_161 rfl (lv_at hl 3 rfl) ?_
              refine lv_iconst (v := 4) hx hb dX3_pointFrom_162 (by decide) ?_
              refine lv_icmp_ne (tgt := 182) hx hb dX3_pointFrom_163 (by decide) (fun c_163 => ?_) (fun c_163 => ?_)
              ·
                have c_163 : ¬ (nn = 4) := fun q9 => absurd ((nI_eq (by omega) (by omega)).mpr q9) (show ¬ (nI nn = nI 4) from c_163)
                refine lv_iconst (v := 0) hx hb dX3_pointFrom_182 (by decide) ?_
                refine lv_istore (lv' := [(6, .int 0), (0, .ref m), (1, .int (nI tN)), (2, .int (nI aN)), (3, .int (nI nn)), (4, .int (lf (rs r).2 aN)), (5, .int p)]) hx hb dX3_pointFrom_183 hl (by decide) rfl (fun ls hl => ?_)
                refine lv_iload hx hb dX3_pointFrom_185 (lv_at hl 0 rfl) ?_
                refine lv_if_eq (tgt := 195) hx hb dX3_pointFrom_187 (by decide) (fun c_187 => ?_) (fun c_187 => ?_)
                ·
                  refine lv_iconst (v := (-1)) hx hb dX3_pointFrom_195 (by decide) ?_
                  refine wd_iret hx hb hr hlocks hW hS dX3_pointFrom_196 ?_
                  refine ⟨?_, rfl⟩
                  rw [pf_in haN (by omega) hnn hbc c_1 (by omega), hI, j_pfl_out (Or.inl (nI_nlt (by omega) (by omega)))]
                  show _ = (if j_told p (nI nn) then p else -1)
                  rw [if_neg]
                  intro q9
                  rcases (told_iff hnn (by omega)).mp q9 with h | h | h
                  · omega
                  · exact absurd h.1 c_134
                  · exact absurd h.1 c_163
                ·
                  exact absurd rfl c_187
              ·
                have c_163 : nn = 4 := (nI_eq (by omega) (by omega)).mp (show (nI nn = nI 4) from c_163)
                refine lv_iload hx hb dX3_pointFrom_166 (lv_at hl 5 rfl) ?_
                refine lv_ldc (v := 65536) hx hb hown (hts (.constant RX3 70 65536) (by decide +kernel)) dX3_pointFrom_168 ?_
                refine lv_ldc (v := 1114111) hx hb hown (hts (.constant RX3 48 1114111) (by decide +kernel)) dX3_pointFrom_170 ?_
                refine wd_callSi (As := [.int p, .int 65536, .int 1114111]) (rest := []) (c2 := 0) (s2 := 0) ⟨hx, hb, hml, hown, hts⟩ (k_X3_within l D cI cT w H.size p 65536 1114111 ) (va_cwS 3 hts gX3_pointFrom_X3_within rfl rfl rfl (by decide +kernel) ⟨Nat.le_of_ble_eq_true rfl, Nat.le_of_ble_eq_true rfl⟩) gK_ok hK hW hS hA rfl hl.1 rfl (Nat.le_of_ble_eq_true rfl) dX3_pointFrom_172 ⟨Nat.le_of_ble_eq_true rfl, Nat.le_of_ble_eq_true rfl⟩ rfl rfl (fun r_172 w_172 H locs hp_172 hW hz hS => ?_)
                obtain ⟨q_r, q_w⟩ := hp_172
                subst r_172
                subst w_172
                refine lv_if_eq (tgt := 182) hx hb dX3_pointFrom_175 (by decide) (fun c_175 => ?_) (fun c_175 => ?_)
                ·
                  have c_175 := j_b0 c_175
                  refine lv_iconst (v := 0) hx hb dX3_pointFrom_182 (by decide) ?_
                  refine lv_istore (lv' := [(6, .int 0), (0, .ref m), (1, .int (nI tN)), (2, .int (nI aN)), (3, .int (nI nn)), (4, .int (lf (rs r).2 aN)), (5, .int p)]) hx hb dX3_pointFrom_183 hl (by decide) rfl (fun ls hl => ?_)
                  refine lv_iload hx hb dX3_pointFrom_185 (lv_at hl 0 rfl) ?_
                  refine lv_if_eq (tgt := 195) hx hb dX3_pointFrom_187 (by decide) (fun c_187 => ?_) (fun c_187 => ?_)
                  ·
                    refine lv_iconst (v := (-1)) hx hb dX3_pointFrom_195 (by decide) ?_
                    refine wd_iret hx hb hr hlocks hW hS dX3_pointFrom_196 ?_
                    refine ⟨?_, rfl⟩
                    rw [pf_in haN (by omega) hnn hbc c_1 (by omega), hI, j_pfl_out (Or.inl (nI_nlt (by omega) (by omega)))]
                    show _ = (if j_told p (nI nn) then p else -1)
                    rw [if_neg]
                    intro q9
                    rcases (told_iff hnn (by omega)).mp q9 with h | h | h
                    · omega
                    · exact absurd h.1 c_134
                    · exact c_175 ⟨h.2.1, h.2.2⟩
                  ·
                    exact absurd rfl c_187
                ·
                  have c_175 := j_bn c_175
                  refine lv_iconst (v := 1) hx hb dX3_pointFrom_178 (by decide) ?_
                  refine lv_goto (tgt := 183) hx hb dX3_pointFrom_179 (by decide) ?_
                  refine lv_istore (lv' := [(6, .int 1), (0, .ref m), (1, .int (nI tN)), (2, .int (nI aN)), (3, .int (nI nn)), (4, .int (lf (rs r).2 aN)), (5, .int p)]) hx hb dX3_pointFrom_183 hl (by decide) rfl (fun ls hl => ?_)
                  refine lv_iload hx hb dX3_pointFrom_185 (lv_at hl 0 rfl) ?_
                  refine lv_if_eq (tgt := 195) hx hb dX3_pointFrom_187 (by decide) (fun c_187 => ?_) (fun c_187 => ?_)
                  ·
                    exact absurd c_187 (by decide)
                  ·
                    refine lv_iload hx hb dX3_pointFrom_190 (lv_at hl 6 rfl) ?_
                    refine lv_goto (tgt := 196) hx hb dX3_pointFrom_192 (by decide) ?_
                    refine wd_iret hx hb hr hlocks hW hS dX3_pointFrom_196 ?_
                    refine ⟨?_, rfl⟩
                    rw [pf_in haN (by omega) hnn hbc c_1 (by omega), hI, j_pfl_out (Or.inl (nI_nlt (by omega) (by omega)))]
                    show _ = (if j_told p (nI nn) then p else -1)
                    rw [if_pos ((told_iff hnn (by omega)).mpr (Or.inr (Or.inr ⟨by omega, c_175.1, c_175.2⟩)))]
            ·
              have c_134 : nn = 3 := (nI_eq (by omega) (by omega)).mp (show (nI nn = nI 3) from c_134)
              refine lv_iload hx hb dX3_pointFrom_137 (lv_at hl 5 rfl) ?_
              refine lv_sipush (v := 2048) hx hb dX3_pointFrom_139 (by decide) ?_
              refine lv_icmp_lt (tgt := 161) hx hb dX3_pointFrom_142 (by decide) (fun c_142 => ?_) (fun c_142 => ?_)
              ·
                refine lv_iload_n hx hb dX3_pointFrom_161 rfl (lv_at hl 3 rfl) ?_
                refine lv_iconst (v := 4) hx hb dX3_pointFrom_162 (by decide) ?_
                refine lv_icmp_ne (tgt := 182) hx hb dX3_pointFrom_163 (by decide) (fun c_163 => ?_) (fun c_163 => ?_)
                ·
                  have c_163 : ¬ (nn = 4) := fun q9 => absurd ((nI_eq (by omega) (by omega)).mpr q9) (show ¬ (nI nn = nI 4) from c_163)
                  refine lv_iconst (v := 0) hx hb dX3_pointFrom_182 (by decide) ?_
                  refine lv_istore (lv' := [(6, .int 0), (0, .ref m), (1, .int (nI tN)), (2, .int (nI aN)), (3, .int (nI nn)), (4, .int (lf (rs r).2 aN)), (5, .int p)]) hx hb dX3_pointFrom_183 hl (by decide) rfl (fun ls hl => ?_)
                  refine lv_iload hx hb dX3_pointFrom_185 (lv_at hl 0 rfl) ?_
                  refine lv_if_eq (tgt := 195) hx hb dX3_pointFrom_187 (by decide) (fun c_187 => ?_) (fun c_187 => ?_)
                  ·
                    refine lv_iconst (v := (-1)) hx hb dX3_pointFrom_195 (by decide) ?_
                    refine wd_iret hx hb hr hlocks hW hS dX3_pointFrom_196 ?_
                    refine ⟨?_, rfl⟩
                    rw [pf_in haN (by omega) hnn hbc c_1 (by omega), hI, j_pfl_out (Or.inl (nI_nlt (by omega) (by omega)))]
                    show _ = (if j_told p (nI nn) then p else -1)
                    rw [if_neg]
                    intro q9
                    rcases (told_iff hnn (by omega)).mp q9 with h | h | h
                    · omega
                    · (have h9 := h.2.1; rw [i_le] at h9; exact h9 c_142)
                    · exact absurd h.1 c_163
                  ·
                    exact absurd rfl c_187
                ·
                  have c_163 : nn = 4 := (nI_eq (by omega) (by omega)).mp (show (nI nn = nI 4) from c_163)
                  refine lv_iload hx hb dX3_pointFrom_166 (lv_at hl 5 rfl) ?_
                  refine lv_ldc (v := 65536) hx hb hown (hts (.constant RX3 70 65536) (by decide +kernel)) dX3_pointFrom_168 ?_
                  refine lv_ldc (v := 1114111) hx hb hown (hts (.constant RX3 48 1114111) (by decide +kernel)) dX3_pointFrom_170 ?_
                  refine wd_callSi (As := [.int p, .int 65536, .int 1114111]) (rest := []) (c2 := 0) (s2 := 0) ⟨hx, hb, hml, hown, hts⟩ (k_X3_within l D cI cT w H.size p 65536 1114111 ) (va_cwS 3 hts gX3_pointFrom_X3_within rfl rfl rfl (by decide +kernel) ⟨Nat.le_of_ble_eq_true rfl, Nat.le_of_ble_eq_true rfl⟩) gK_ok hK hW hS hA rfl hl.1 rfl (Nat.le_of_ble_eq_true rfl) dX3_pointFrom_172 ⟨Nat.le_of_ble_eq_true rfl, Nat.le_of_ble_eq_true rfl⟩ rfl rfl (fun r_172 w_172 H locs hp_172 hW hz hS => ?_)
                  obtain ⟨q_r, q_w⟩ := hp_172
                  subst r_172
                  subst w_172
                  refine lv_if_eq (tgt := 182) hx hb dX3_pointFrom_175 (by decide) (fun c_175 => ?_) (fun c_175 => ?_)
                  ·
                    have c_175 := j_b0 c_175
                    refine lv_iconst (v := 0) hx hb dX3_pointFrom_182 (by decide) ?_
                    refine lv_istore (lv' := [(6, .int 0), (0, .ref m), (1, .int (nI tN)), (2, .int (nI aN)), (3, .int (nI nn)), (4, .int (lf (rs r).2 aN)), (5, .int p)]) hx hb dX3_pointFrom_183 hl (by decide) rfl (fun ls hl => ?_)
                    refine lv_iload hx hb dX3_pointFrom_185 (lv_at hl 0 rfl) ?_
                    refine lv_if_eq (tgt := 195) hx hb dX3_pointFrom_187 (by decide) (fun c_187 => ?_) (fun c_187 => ?_)
                    ·
                      refine lv_iconst (v := (-1)) hx hb dX3_pointFrom_195 (by decide) ?_
                      refine wd_iret hx hb hr hlocks hW hS dX3_pointFrom_196 ?_
                      refine ⟨?_, rfl⟩
                      rw [pf_in haN (by omega) hnn hbc c_1 (by omega), hI, j_pfl_out (Or.inl (nI_nlt (by omega) (by omega)))]
                      show _ = (if j_told p (nI nn) then p else -1)
                      rw [if_neg]
                      intro q9
                      rcases (told_iff hnn (by omega)).mp q9 with h | h | h
                      · omega
                      · (have h9 := h.2.1; rw [i_le] at h9; exact h9 c_142)
                      · exact c_175 ⟨h.2.1, h.2.2⟩
                    ·
                      exact absurd rfl c_187
                  ·
                    have c_175 := j_bn c_175
                    refine lv_iconst (v := 1) hx hb dX3_pointFrom_178 (by decide) ?_
                    refine lv_goto (tgt := 183) hx hb dX3_pointFrom_179 (by decide) ?_
                    refine lv_istore (lv' := [(6, .int 1), (0, .ref m), (1, .int (nI tN)), (2, .int (nI aN)), (3, .int (nI nn)), (4, .int (lf (rs r).2 aN)), (5, .int p)]) hx hb dX3_pointFrom_183 hl (by decide) rfl (fun ls hl => ?_)
                    refine lv_iload hx hb dX3_pointFrom_185 (lv_at hl 0 rfl) ?_
                    refine lv_if_eq (tgt := 195) hx hb dX3_pointFrom_187 (by decide) (fun c_187 => ?_) (fun c_187 => ?_)
                    ·
                      exact absurd c_187 (by decide)
                    ·
                      refine lv_iload hx hb dX3_pointFrom_190 (lv_at hl 6 rfl) ?_
                      refine lv_goto (tgt := 196) hx hb dX3_pointFrom_192 (by decide) ?_
                      refine wd_iret hx hb hr hlocks hW hS dX3_pointFrom_196 ?_
                      refine ⟨?_, rfl⟩
                      rw [pf_in haN (by omega) hnn hbc c_1 (by omega), hI, j_pfl_out (Or.inl (nI_nlt (by omega) (by omega)))]
                      show _ = (if j_told p (nI nn) then p else -1)
                      rw [if_pos ((told_iff hnn (by omega)).mpr (Or.inr (Or.inr ⟨by omega, c_175.1, c_175.2⟩)))]
              ·
                refine lv_iload hx hb dX3_pointFrom_145 (lv_at hl 5 rfl) ?_
                refine wd_callSi (As := [.int p]) (rest := []) (c2 := 0) (s2 := 0) ⟨hx, hb, hml, hown, hts⟩ (k_X3_isHigh l D cI cT w H.size p ) (va_cwS 1 hts gX3_pointFrom_X3_isHigh rfl rfl rfl (by decide +kernel) ⟨Nat.le_of_ble_eq_true rfl, Nat.le_of_ble_eq_true rfl⟩) gK_ok hK hW hS hA rfl hl.1 rfl (Nat.le_of_ble_eq_true rfl) dX3_pointFrom_147 ⟨Nat.le_of_ble_eq_true rfl, Nat.le_of_ble_eq_true rfl⟩ rfl rfl (fun r_147 w_147 H locs hp_147 hW hz hS => ?_)
                obtain ⟨q_r, q_w⟩ := hp_147
                subst r_147
                subst w_147
                refine lv_if_ne (tgt := 161) hx hb dX3_pointFrom_150 (by decide) (fun c_150 => ?_) (fun c_150 => ?_)
                ·
                  have c_150 := j_bn c_150
                  refine lv_iload_n hx hb dX3_pointFrom_161 rfl (lv_at hl 3 rfl) ?_
                  refine lv_iconst (v := 4) hx hb dX3_pointFrom_162 (by decide) ?_
                  refine lv_icmp_ne (tgt := 182) hx hb dX3_pointFrom_163 (by decide) (fun c_163 => ?_) (fun c_163 => ?_)
                  ·
                    have c_163 : ¬ (nn = 4) := fun q9 => absurd ((nI_eq (by omega) (by omega)).mpr q9) (show ¬ (nI nn = nI 4) from c_163)
                    refine lv_iconst (v := 0) hx hb dX3_pointFrom_182 (by decide) ?_
                    refine lv_istore (lv' := [(6, .int 0), (0, .ref m), (1, .int (nI tN)), (2, .int (nI aN)), (3, .int (nI nn)), (4, .int (lf (rs r).2 aN)), (5, .int p)]) hx hb dX3_pointFrom_183 hl (by decide) rfl (fun ls hl => ?_)
                    refine lv_iload hx hb dX3_pointFrom_185 (lv_at hl 0 rfl) ?_
                    refine lv_if_eq (tgt := 195) hx hb dX3_pointFrom_187 (by decide) (fun c_187 => ?_) (fun c_187 => ?_)
                    ·
                      refine lv_iconst (v := (-1)) hx hb dX3_pointFrom_195 (by decide) ?_
                      refine wd_iret hx hb hr hlocks hW hS dX3_pointFrom_196 ?_
                      refine ⟨?_, rfl⟩
                      rw [pf_in haN (by omega) hnn hbc c_1 (by omega), hI, j_pfl_out (Or.inl (nI_nlt (by omega) (by omega)))]
                      show _ = (if j_told p (nI nn) then p else -1)
                      rw [if_neg]
                      intro q9
                      rcases (told_iff hnn (by omega)).mp q9 with h | h | h
                      · omega
                      · exact h.2.2.1 c_150
                      · exact absurd h.1 c_163
                    ·
                      exact absurd rfl c_187
                  ·
                    have c_163 : nn = 4 := (nI_eq (by omega) (by omega)).mp (show (nI nn = nI 4) from c_163)
                    refine lv_iload hx hb dX3_pointFrom_166 (lv_at hl 5 rfl) ?_
                    refine lv_ldc (v := 65536) hx hb hown (hts (.constant RX3 70 65536) (by decide +kernel)) dX3_pointFrom_168 ?_
                    refine lv_ldc (v := 1114111) hx hb hown (hts (.constant RX3 48 1114111) (by decide +kernel)) dX3_pointFrom_170 ?_
                    refine wd_callSi (As := [.int p, .int 65536, .int 1114111]) (rest := []) (c2 := 0) (s2 := 0) ⟨hx, hb, hml, hown, hts⟩ (k_X3_within l D cI cT w H.size p 65536 1114111 ) (va_cwS 3 hts gX3_pointFrom_X3_within rfl rfl rfl (by decide +kernel) ⟨Nat.le_of_ble_eq_true rfl, Nat.le_of_ble_eq_true rfl⟩) gK_ok hK hW hS hA rfl hl.1 rfl (Nat.le_of_ble_eq_true rfl) dX3_pointFrom_172 ⟨Nat.le_of_ble_eq_true rfl, Nat.le_of_ble_eq_true rfl⟩ rfl rfl (fun r_172 w_172 H locs hp_172 hW hz hS => ?_)
                    obtain ⟨q_r, q_w⟩ := hp_172
                    subst r_172
                    subst w_172
                    refine lv_if_eq (tgt := 182) hx hb dX3_pointFrom_175 (by decide) (fun c_175 => ?_) (fun c_175 => ?_)
                    ·
                      have c_175 := j_b0 c_175
                      refine lv_iconst (v := 0) hx hb dX3_pointFrom_182 (by decide) ?_
                      refine lv_istore (lv' := [(6, .int 0), (0, .ref m), (1, .int (nI tN)), (2, .int (nI aN)), (3, .int (nI nn)), (4, .int (lf (rs r).2 aN)), (5, .int p)]) hx hb dX3_pointFrom_183 hl (by decide) rfl (fun ls hl => ?_)
                      refine lv_iload hx hb dX3_pointFrom_185 (lv_at hl 0 rfl) ?_
                      refine lv_if_eq (tgt := 195) hx hb dX3_pointFrom_187 (by decide) (fun c_187 => ?_) (fun c_187 => ?_)
                      ·
                        refine lv_iconst (v := (-1)) hx hb dX3_pointFrom_195 (by decide) ?_
                        refine wd_iret hx hb hr hlocks hW hS dX3_pointFrom_196 ?_
                        refine ⟨?_, rfl⟩
                        rw [pf_in haN (by omega) hnn hbc c_1 (by omega), hI, j_pfl_out (Or.inl (nI_nlt (by omega) (by omega)))]
                        show _ = (if j_told p (nI nn) then p else -1)
                        rw [if_neg]
                        intro q9
                        rcases (told_iff hnn (by omega)).mp q9 with h | h | h
                        · omega
                        · exact h.2.2.1 c_150
                        · exact c_175 ⟨h.2.1, h.2.2⟩
                      ·
                        exact absurd rfl c_187
                    ·
                      have c_175 := j_bn c_175
                      refine lv_iconst (v := 1) hx hb dX3_pointFrom_178 (by decide) ?_
                      refine lv_goto (tgt := 183) hx hb dX3_pointFrom_179 (by decide) ?_
                      refine lv_istore (lv' := [(6, .int 1), (0, .ref m), (1, .int (nI tN)), (2, .int (nI aN)), (3, .int (nI nn)), (4, .int (lf (rs r).2 aN)), (5, .int p)]) hx hb dX3_pointFrom_183 hl (by decide) rfl (fun ls hl => ?_)
                      refine lv_iload hx hb dX3_pointFrom_185 (lv_at hl 0 rfl) ?_
                      refine lv_if_eq (tgt := 195) hx hb dX3_pointFrom_187 (by decide) (fun c_187 => ?_) (fun c_187 => ?_)
                      ·
                        exact absurd c_187 (by decide)
                      ·
                        refine lv_iload hx hb dX3_pointFrom_190 (lv_at hl 6 rfl) ?_
                        refine lv_goto (tgt := 196) hx hb dX3_pointFrom_192 (by decide) ?_
                        refine wd_iret hx hb hr hlocks hW hS dX3_pointFrom_196 ?_
                        refine ⟨?_, rfl⟩
                        rw [pf_in haN (by omega) hnn hbc c_1 (by omega), hI, j_pfl_out (Or.inl (nI_nlt (by omega) (by omega)))]
                        show _ = (if j_told p (nI nn) then p else -1)
                        rw [if_pos ((told_iff hnn (by omega)).mpr (Or.inr (Or.inr ⟨by omega, c_175.1, c_175.2⟩)))]
                ·
                  have c_150 := j_b0 c_150
                  refine lv_iload hx hb dX3_pointFrom_153 (lv_at hl 5 rfl) ?_
                  refine wd_callSi (As := [.int p]) (rest := []) (c2 := 0) (s2 := 0) ⟨hx, hb, hml, hown, hts⟩ (k_X3_isLow l D cI cT w H.size p ) (va_cwS 1 hts gX3_pointFrom_X3_isLow rfl rfl rfl (by decide +kernel) ⟨Nat.le_of_ble_eq_true rfl, Nat.le_of_ble_eq_true rfl⟩) gK_ok hK hW hS hA rfl hl.1 rfl (Nat.le_of_ble_eq_true rfl) dX3_pointFrom_155 ⟨Nat.le_of_ble_eq_true rfl, Nat.le_of_ble_eq_true rfl⟩ rfl rfl (fun r_155 w_155 H locs hp_155 hW hz hS => ?_)
                  obtain ⟨q_r, q_w⟩ := hp_155
                  subst r_155
                  subst w_155
                  refine lv_if_eq (tgt := 178) hx hb dX3_pointFrom_158 (by decide) (fun c_158 => ?_) (fun c_158 => ?_)
                  ·
                    have c_158 := j_b0 c_158
                    refine lv_iconst (v := 1) hx hb dX3_pointFrom_178 (by decide) ?_
                    refine lv_goto (tgt := 183) hx hb dX3_pointFrom_179 (by decide) ?_
                    refine lv_istore (lv' := [(6, .int 1), (0, .ref m), (1, .int (nI tN)), (2, .int (nI aN)), (3, .int (nI nn)), (4, .int (lf (rs r).2 aN)), (5, .int p)]) hx hb dX3_pointFrom_183 hl (by decide) rfl (fun ls hl => ?_)
                    refine lv_iload hx hb dX3_pointFrom_185 (lv_at hl 0 rfl) ?_
                    refine lv_if_eq (tgt := 195) hx hb dX3_pointFrom_187 (by decide) (fun c_187 => ?_) (fun c_187 => ?_)
                    ·
                      exact absurd c_187 (by decide)
                    ·
                      refine lv_iload hx hb dX3_pointFrom_190 (lv_at hl 6 rfl) ?_
                      refine lv_goto (tgt := 196) hx hb dX3_pointFrom_192 (by decide) ?_
                      refine wd_iret hx hb hr hlocks hW hS dX3_pointFrom_196 ?_
                      refine ⟨?_, rfl⟩
                      rw [pf_in haN (by omega) hnn hbc c_1 (by omega), hI, j_pfl_out (Or.inl (nI_nlt (by omega) (by omega)))]
                      show _ = (if j_told p (nI nn) then p else -1)
                      rw [if_pos ((told_iff hnn (by omega)).mpr (Or.inr (Or.inl ⟨by omega, by rw [i_le]; exact c_142, c_150, c_158⟩)))]
                  ·
                    have c_158 := j_bn c_158
                    refine lv_iload_n hx hb dX3_pointFrom_161 rfl (lv_at hl 3 rfl) ?_
                    refine lv_iconst (v := 4) hx hb dX3_pointFrom_162 (by decide) ?_
                    refine lv_icmp_ne (tgt := 182) hx hb dX3_pointFrom_163 (by decide) (fun c_163 => ?_) (fun c_163 => ?_)
                    ·
                      have c_163 : ¬ (nn = 4) := fun q9 => absurd ((nI_eq (by omega) (by omega)).mpr q9) (show ¬ (nI nn = nI 4) from c_163)
                      refine lv_iconst (v := 0) hx hb dX3_pointFrom_182 (by decide) ?_
                      refine lv_istore (lv' := [(6, .int 0), (0, .ref m), (1, .int (nI tN)), (2, .int (nI aN)), (3, .int (nI nn)), (4, .int (lf (rs r).2 aN)), (5, .int p)]) hx hb dX3_pointFrom_183 hl (by decide) rfl (fun ls hl => ?_)
                      refine lv_iload hx hb dX3_pointFrom_185 (lv_at hl 0 rfl) ?_
                      refine lv_if_eq (tgt := 195) hx hb dX3_pointFrom_187 (by decide) (fun c_187 => ?_) (fun c_187 => ?_)
                      ·
                        refine lv_iconst (v := (-1)) hx hb dX3_pointFrom_195 (by decide) ?_
                        refine wd_iret hx hb hr hlocks hW hS dX3_pointFrom_196 ?_
                        refine ⟨?_, rfl⟩
                        rw [pf_in haN (by omega) hnn hbc c_1 (by omega), hI, j_pfl_out (Or.inl (nI_nlt (by omega) (by omega)))]
                        show _ = (if j_told p (nI nn) then p else -1)
                        rw [if_neg]
                        intro q9
                        rcases (told_iff hnn (by omega)).mp q9 with h | h | h
                        · omega
                        · exact h.2.2.2 c_158
                        · exact absurd h.1 c_163
                      ·
                        exact absurd rfl c_187
                    ·
                      have c_163 : nn = 4 := (nI_eq (by omega) (by omega)).mp (show (nI nn = nI 4) from c_163)
                      refine lv_iload hx hb dX3_pointFrom_166 (lv_at hl 5 rfl) ?_
                      refine lv_ldc (v := 65536) hx hb hown (hts (.constant RX3 70 65536) (by decide +kernel)) dX3_pointFrom_168 ?_
                      refine lv_ldc (v := 1114111) hx hb hown (hts (.constant RX3 48 1114111) (by decide +kernel)) dX3_pointFrom_170 ?_
                      refine wd_callSi (As := [.int p, .int 65536, .int 1114111]) (rest := []) (c2 := 0) (s2 := 0) ⟨hx, hb, hml, hown, hts⟩ (k_X3_within l D cI cT w H.size p 65536 1114111 ) (va_cwS 3 hts gX3_pointFrom_X3_within rfl rfl rfl (by decide +kernel) ⟨Nat.le_of_ble_eq_true rfl, Nat.le_of_ble_eq_true rfl⟩) gK_ok hK hW hS hA rfl hl.1 rfl (Nat.le_of_ble_eq_true rfl) dX3_pointFrom_172 ⟨Nat.le_of_ble_eq_true rfl, Nat.le_of_ble_eq_true rfl⟩ rfl rfl (fun r_172 w_172 H locs hp_172 hW hz hS => ?_)
                      obtain ⟨q_r, q_w⟩ := hp_172
                      subst r_172
                      subst w_172
                      refine lv_if_eq (tgt := 182) hx hb dX3_pointFrom_175 (by decide) (fun c_175 => ?_) (fun c_175 => ?_)
                      ·
                        have c_175 := j_b0 c_175
                        refine lv_iconst (v := 0) hx hb dX3_pointFrom_182 (by decide) ?_
                        refine lv_istore (lv' := [(6, .int 0), (0, .ref m), (1, .int (nI tN)), (2, .int (nI aN)), (3, .int (nI nn)), (4, .int (lf (rs r).2 aN)), (5, .int p)]) hx hb dX3_pointFrom_183 hl (by decide) rfl (fun ls hl => ?_)
                        refine lv_iload hx hb dX3_pointFrom_185 (lv_at hl 0 rfl) ?_
                        refine lv_if_eq (tgt := 195) hx hb dX3_pointFrom_187 (by decide) (fun c_187 => ?_) (fun c_187 => ?_)
                        ·
                          refine lv_iconst (v := (-1)) hx hb dX3_pointFrom_195 (by decide) ?_
                          refine wd_iret hx hb hr hlocks hW hS dX3_pointFrom_196 ?_
                          refine ⟨?_, rfl⟩
                          rw [pf_in haN (by omega) hnn hbc c_1 (by omega), hI, j_pfl_out (Or.inl (nI_nlt (by omega) (by omega)))]
                          show _ = (if j_told p (nI nn) then p else -1)
                          rw [if_neg]
                          intro q9
                          rcases (told_iff hnn (by omega)).mp q9 with h | h | h
                          · omega
                          · exact h.2.2.2 c_158
                          · exact c_175 ⟨h.2.1, h.2.2⟩
                        ·
                          exact absurd rfl c_187
                      ·
                        have c_175 := j_bn c_175
                        refine lv_iconst (v := 1) hx hb dX3_pointFrom_178 (by decide) ?_
                        refine lv_goto (tgt := 183) hx hb dX3_pointFrom_179 (by decide) ?_
                        refine lv_istore (lv' := [(6, .int 1), (0, .ref m), (1, .int (nI tN)), (2, .int (nI aN)), (3, .int (nI nn)), (4, .int (lf (rs r).2 aN)), (5, .int p)]) hx hb dX3_pointFrom_183 hl (by decide) rfl (fun ls hl => ?_)
                        refine lv_iload hx hb dX3_pointFrom_185 (lv_at hl 0 rfl) ?_
                        refine lv_if_eq (tgt := 195) hx hb dX3_pointFrom_187 (by decide) (fun c_187 => ?_) (fun c_187 => ?_)
                        ·
                          exact absurd c_187 (by decide)
                        ·
                          refine lv_iload hx hb dX3_pointFrom_190 (lv_at hl 6 rfl) ?_
                          refine lv_goto (tgt := 196) hx hb dX3_pointFrom_192 (by decide) ?_
                          refine wd_iret hx hb hr hlocks hW hS dX3_pointFrom_196 ?_
                          refine ⟨?_, rfl⟩
                          rw [pf_in haN (by omega) hnn hbc c_1 (by omega), hI, j_pfl_out (Or.inl (nI_nlt (by omega) (by omega)))]
                          show _ = (if j_told p (nI nn) then p else -1)
                          rw [if_pos ((told_iff hnn (by omega)).mpr (Or.inr (Or.inr ⟨by omega, c_175.1, c_175.2⟩)))]
        ·
          have c_77 : ¬ (nn ≤ k) := fun q9 => absurd ((nI_leI (by omega) (by omega)).mpr q9) (show ¬ (nI nn ≤ nI k) from c_77)
          refine lv_aload_n hx hb dX3_pointFrom_80 rfl (lv_at hl 0 rfl) ?_
          refine lv_iload_n hx hb dX3_pointFrom_81 rfl (lv_at hl 1 rfl) ?_
          refine lv_iload_n hx hb dX3_pointFrom_82 rfl (lv_at hl 2 rfl) ?_
          refine lv_iload hx hb dX3_pointFrom_83 (lv_at hl 6 rfl) ?_
          refine lv_iadd hx hb dX3_pointFrom_85 ?_
          refine wd_topE (y := nI (aN + k)) (nI_add _ _) ?_
          refine wd_callVi (As := [.int (nI tN), .int (nI (aN + k))]) (rest := []) (c2 := 0) (s2 := 0) ⟨hx, hb, hml, hown, hts⟩ (k_X3_item l D cI cT w H.size m A fK (fun r => (rs r).1) (fun r => nI (rs r).2.length) fI kc cd pl XD XP XU XO XB tx rs tN r (aN + k) hR (by omega) htx hr24 hit (by omega)) (cwV 2 hts gX3_pointFrom_X3_item rfl rfl rfl (by decide +kernel) ⟨Nat.le_of_ble_eq_true rfl, Nat.le_of_ble_eq_true rfl⟩) gK_ok hK hW (wd_recv (ci := 3) hK.1 hW rfl hR.1) hS hA rfl hl.1 rfl (Nat.le_of_ble_eq_true rfl) dX3_pointFrom_86 ⟨Nat.le_of_ble_eq_true rfl, Nat.le_of_ble_eq_true rfl⟩ rfl rfl (fun r_86 w_86 H locs hp_86 hW hz hS => ?_)
          obtain ⟨q_r, q_w⟩ := hp_86
          subst r_86
          subst w_86
          refine lv_istore (lv' := [(7, .int (lf (rs r).2 (aN + k))), (0, .ref m), (1, .int (nI tN)), (2, .int (nI aN)), (3, .int (nI nn)), (4, .int (lf (rs r).2 aN)), (5, .int p), (6, .int (nI k))]) hx hb dX3_pointFrom_89 hl (by decide) rfl (fun ls hl => ?_)
          refine lv_iload hx hb dX3_pointFrom_91 (lv_at hl 0 rfl) ?_
          refine lv_sipush (v := 128) hx hb dX3_pointFrom_93 (by decide) ?_
          refine lv_sipush (v := 191) hx hb dX3_pointFrom_96 (by decide) ?_
          refine wd_callSi (As := [.int (lf (rs r).2 (aN + k)), .int 128, .int 191]) (rest := []) (c2 := 0) (s2 := 0) ⟨hx, hb, hml, hown, hts⟩ (k_X3_within l D cI cT w H.size (lf (rs r).2 (aN + k)) 128 191 ) (va_cwS 3 hts gX3_pointFrom_X3_within rfl rfl rfl (by decide +kernel) ⟨Nat.le_of_ble_eq_true rfl, Nat.le_of_ble_eq_true rfl⟩) gK_ok hK hW hS hA rfl hl.1 rfl (Nat.le_of_ble_eq_true rfl) dX3_pointFrom_99 ⟨Nat.le_of_ble_eq_true rfl, Nat.le_of_ble_eq_true rfl⟩ rfl rfl (fun r_99 w_99 H locs hp_99 hW hz hS => ?_)
          obtain ⟨q_r, q_w⟩ := hp_99
          subst r_99
          subst w_99
          refine lv_if_ne (tgt := 107) hx hb dX3_pointFrom_102 (by decide) (fun c_102 => ?_) (fun c_102 => ?_)
          ·
            have c_102 := j_bn c_102
            refine lv_bipush (v := 64) hx hb dX3_pointFrom_107 (by decide) ?_
            refine lv_iload hx hb dX3_pointFrom_109 (lv_at hl 6 rfl) ?_
            refine lv_imul hx hb dX3_pointFrom_111 ?_
            refine lv_iload hx hb dX3_pointFrom_112 (lv_at hl 0 rfl) ?_
            refine lv_iadd hx hb dX3_pointFrom_114 ?_
            refine lv_sipush (v := 128) hx hb dX3_pointFrom_115 (by decide) ?_
            refine lv_isub hx hb dX3_pointFrom_118 ?_
            refine wd_topE (y := p * 64 + (lf (rs r).2 (aN + k) - 128)) (pf_step _ _) ?_
            refine lv_istore (lv' := [(5, .int (p * 64 + (lf (rs r).2 (aN + k) - 128))), (7, .int (lf (rs r).2 (aN + k))), (0, .ref m), (1, .int (nI tN)), (2, .int (nI aN)), (3, .int (nI nn)), (4, .int (lf (rs r).2 aN)), (6, .int (nI k))]) hx hb dX3_pointFrom_119 hl (by decide) rfl (fun ls hl => ?_)
            refine lv_iinc (v := nI (k + 1)) (lv' := [(6, .int (nI (k + 1))), (5, .int (p * 64 + (lf (rs r).2 (aN + k) - 128))), (7, .int (lf (rs r).2 (aN + k))), (0, .ref m), (1, .int (nI tN)), (2, .int (nI aN)), (3, .int (nI nn)), (4, .int (lf (rs r).2 aN))]) hx hb dX3_pointFrom_121 hl (k := 7) rfl (nI_add k 1) (by decide) rfl (fun ls hl => ?_)
            refine lv_goto (tgt := 74) hx hb dX3_pointFrom_124 (by decide) ?_
            exact ih_74 (k + 1) (p * 64 + (lf (rs r).2 (aN + k) - 128)) H locs ls ⟨(by omega), (by omega), (hI.trans ((j_pfl_go (nI_lt (by omega) (by omega)) (by omega) (rng_in c_102) (by omega)).trans (by rw [show (rs r).2.length - (aN + k) - 1 = (rs r).2.length - (aN + (k + 1)) by omega]; rfl))), hW, hS, (lv_sub hl [3, 4, 5, 6, 7, 1, 0] rfl)⟩ (by omega)
          ·
            have c_102 := j_b0 c_102
            refine lv_iconst (v := (-1)) hx hb dX3_pointFrom_105 (by decide) ?_
            refine wd_iret hx hb hr hlocks hW hS dX3_pointFrom_106 ?_
            exact ⟨by rw [pf_in haN (by omega) hnn hbc c_1 (by omega), hI, j_pfl_bad (nI_lt (by omega) (by omega)) (by omega) (rng_out c_102) (by omega)], rfl⟩
    ·
      have c_12 : ¬ (aN + nn ≤ (rs r).2.length) := fun q9 => absurd ((nI_leI (by omega) (by omega)).mpr q9) (show ¬ (nI (aN + nn) ≤ nI ((rs r).2.length)) from c_12)
      refine lv_iconst (v := (-1)) hx hb dX3_pointFrom_15 (by decide) ?_
      refine wd_iret hx hb hr hlocks hW hS dX3_pointFrom_16 ?_
      exact ⟨(pf_out haN (by omega) hnn hbc (Or.inr (by omega))).symm, rfl⟩
set_option maxHeartbeats 4000000 in
set_option maxRecDepth 100000 in
theorem k_X3_read (l : Launch) (D : va_G) (cI cT : ClassId) (w : Wd) (sz : Nat) (m : Nat) (cd : Int32) (pl : Int32) (df : List Int32) (tx : Nat → Option Nat) (kp : List Nat) (rs : Rws) (t : Int32) (u : Int32) (form : Int32) (hwf : WF (cd, pl, df, tx, kp, rs)) (hI : InvR cI m (cd, pl, df, tx, kp, rs) w) : wd_Mi l D vwCl (gK D cI cT) yX3_read wsX3_read (wd_rm 3 0 0) [.ref m, .int t, .int u, .int form] w sz (fun r w' => r = (s_read (cd, pl, df, tx, kp, rs) t u form).1 ∧ InvR cI m (s_read (cd, pl, df, tx, kp, rs) t u form).2 w') := by
  refine wd_met (cc := cX3_read) (maxL := 9) (ret := (some .int)) (by decide) rfl (Nat.le_of_ble_eq_true rfl) ?_
  intro pg ev sg mi bl mt cde ls C0 hsz hK hW hl
  obtain ⟨hx, hb, hr, hml, hown, hts, hlocks, hnm⟩ := C0
  subst hsz
  have hown : sg.vm.findClass RX3 = some mi.cls := hown
  have hS : va_S (wd_A w sg.heap.size) sg.heap sg.heap [] := va_S.rf
  have hA : ∀ q, sg.heap.size ≤ q → wd_A w sg.heap.size q := fun q h => Or.inr h
  have hl : lv_has ls 9 [(0, .ref m), (1, .int t), (2, .int u), (3, .int form)] := hl
  obtain ⟨A, fI, XD, XP, XU, XO, XB, hR, hdf, hit⟩ := hI
  dsimp only at hR hdf hit
  have h10 : ∀ t, 10 ≤ t → tx t = none := hwf.2.1
  have hkp : kp.length ≤ 12 := hwf.2.2.1
  have hlv : ∀ t r, tx t = some r → r < 24 := fun t r h => (hwf.2.2.2.1 r (Or.inl ⟨t, h⟩)).1
  have hok : ∀ t r, tx t = some r → rOK (rs r) := fun t r h => (hwf.2.2.2.1 r (Or.inl ⟨t, h⟩)).2
  have hk24 : ∀ r ∈ kp, r < 24 := fun r h => (hwf.2.2.2.1 r (Or.inr h)).1
  have hdl : df.length = XD.2 := by rw [← hdf, rl_len]
  have hd60 : df.length ≤ 60 := hwf.1.1
  refine lv_iload_n hx hb dX3_read_0 rfl (lv_at hl 1 rfl) ?_
  refine wd_callSi (As := [.int t]) (rest := []) (c2 := 0) (s2 := 0) ⟨hx, hb, hml, hown, hts⟩ (k_X3_isText l D cI cT w sg.heap.size t ) (va_cwS 1 hts gX3_read_X3_isText rfl rfl rfl (by decide +kernel) ⟨Nat.le_of_ble_eq_true rfl, Nat.le_of_ble_eq_true rfl⟩) gK_ok hK hW hS hA rfl hl.1 rfl (Nat.le_of_ble_eq_true rfl) dX3_read_1 ⟨Nat.le_of_ble_eq_true rfl, Nat.le_of_ble_eq_true rfl⟩ rfl rfl (fun r_1 w_1 H locs hp_1 hW hz hS => ?_)
  obtain ⟨q_r, q_w⟩ := hp_1
  subst r_1
  subst w_1
  refine lv_if_eq (tgt := 23) hx hb dX3_read_4 (by decide) (fun c_4 => ?_) (fun c_4 => ?_)
  ·
    have c_4 := nt_of (j_b0 c_4)
    refine lv_ldc (v := (-2000000001)) hx hb hown (hts (.constant RX3 107 (-2000000001)) (by decide +kernel)) dX3_read_23 ?_
    refine wd_iret hx hb hr hlocks hW hS dX3_read_25 ?_
    have e9 : s_read (cd, pl, df, tx, kp, rs) t u form = ((-2000000001), cd, pl, df, tx, kp, rs) := by simp only [s_read, if_pos (Or.inl c_4), s_w1, s_no, s_mk, s_brk]
    show _ = (s_read (cd, pl, df, tx, kp, rs) t u form).1 ∧ InvR cI m (s_read (cd, pl, df, tx, kp, rs) t u form).2 _
    rw [e9]
    exact ⟨rfl, A, fI, XD, XP, XU, XO, XB, hR, hdf, hit⟩
  ·
    have c_4 := j_bn c_4
    obtain ⟨tN, htN, htE⟩ := nt_spec c_4
    subst htE
    have hcl_t : (nI tN).toNatClampNeg = tN := nI_clamp (by omega)
    refine lv_iload_n hx hb dX3_read_7 rfl (lv_at hl 2 rfl) ?_
    refine wd_callSi (As := [.int u]) (rest := []) (c2 := 0) (s2 := 0) ⟨hx, hb, hml, hown, hts⟩ (k_X3_isText l D cI cT w H.size u ) (va_cwS 1 hts gX3_read_X3_isText rfl rfl rfl (by decide +kernel) ⟨Nat.le_of_ble_eq_true rfl, Nat.le_of_ble_eq_true rfl⟩) gK_ok hK hW hS hA rfl hl.1 rfl (Nat.le_of_ble_eq_true rfl) dX3_read_8 ⟨Nat.le_of_ble_eq_true rfl, Nat.le_of_ble_eq_true rfl⟩ rfl rfl (fun r_8 w_8 H locs hp_8 hW hz hS => ?_)
    obtain ⟨q_r, q_w⟩ := hp_8
    subst r_8
    subst w_8
    refine lv_if_eq (tgt := 23) hx hb dX3_read_11 (by decide) (fun c_11 => ?_) (fun c_11 => ?_)
    ·
      have c_11 := nt_of (j_b0 c_11)
      refine lv_ldc (v := (-2000000001)) hx hb hown (hts (.constant RX3 107 (-2000000001)) (by decide +kernel)) dX3_read_23 ?_
      refine wd_iret hx hb hr hlocks hW hS dX3_read_25 ?_
      have e9 : s_read (cd, pl, df, tx, kp, rs) (nI tN) u form = ((-2000000001), cd, pl, df, tx, kp, rs) := by simp only [s_read, if_pos (Or.inr (Or.inl c_11)), s_w1, s_no, s_mk, s_brk, hcl_t]
      show _ = (s_read (cd, pl, df, tx, kp, rs) (nI tN) u form).1 ∧ InvR cI m (s_read (cd, pl, df, tx, kp, rs) (nI tN) u form).2 _
      rw [e9]
      exact ⟨rfl, A, fI, XD, XP, XU, XO, XB, hR, hdf, hit⟩
    ·
      have c_11 := j_bn c_11
      obtain ⟨uN, huN, huE⟩ := nt_spec c_11
      subst huE
      have hcl_u : (nI uN).toNatClampNeg = uN := nI_clamp (by omega)
      refine lv_iload_n hx hb dX3_read_14 rfl (lv_at hl 3 rfl) ?_
      refine lv_iconst (v := 0) hx hb dX3_read_15 (by decide) ?_
      refine lv_iconst (v := 3) hx hb dX3_read_16 (by decide) ?_
      refine wd_callSi (As := [.int form, .int 0, .int 3]) (rest := []) (c2 := 0) (s2 := 0) ⟨hx, hb, hml, hown, hts⟩ (k_X3_within l D cI cT w H.size form 0 3 ) (va_cwS 3 hts gX3_read_X3_within rfl rfl rfl (by decide +kernel) ⟨Nat.le_of_ble_eq_true rfl, Nat.le_of_ble_eq_true rfl⟩) gK_ok hK hW hS hA rfl hl.1 rfl (Nat.le_of_ble_eq_true rfl) dX3_read_17 ⟨Nat.le_of_ble_eq_true rfl, Nat.le_of_ble_eq_true rfl⟩ rfl rfl (fun r_17 w_17 H locs hp_17 hW hz hS => ?_)
      obtain ⟨q_r, q_w⟩ := hp_17
      subst r_17
      subst w_17
      refine lv_if_ne (tgt := 26) hx hb dX3_read_20 (by decide) (fun c_20 => ?_) (fun c_20 => ?_)
      ·
        have c_20 := (w_form form).mp (j_bn c_20)
        refine lv_aload_n hx hb dX3_read_26 rfl (lv_at hl 0 rfl) ?_
        refine lv_iload_n hx hb dX3_read_27 rfl (lv_at hl 2 rfl) ?_
        refine wd_callVi (As := [.int (nI uN)]) (rest := []) (c2 := 0) (s2 := 0) ⟨hx, hb, hml, hown, hts⟩ (k_X3_sortOf l D cI cT w H.size m A (kI kp) (fun r => nI (rs r).2.length) fI kp.length cd pl XD XP XU XO XB tx rs uN hR (by omega) hlv) (cwV 1 hts gX3_read_X3_sortOf rfl rfl rfl (by decide +kernel) ⟨Nat.le_of_ble_eq_true rfl, Nat.le_of_ble_eq_true rfl⟩) gK_ok hK hW (wd_recv (ci := 3) hK.1 hW rfl hR.1) hS hA rfl hl.1 rfl (Nat.le_of_ble_eq_true rfl) dX3_read_28 ⟨Nat.le_of_ble_eq_true rfl, Nat.le_of_ble_eq_true rfl⟩ rfl rfl (fun r_28 w_28 H locs hp_28 hW hz hS => ?_)
        obtain ⟨q_r, q_w⟩ := hp_28
        subst r_28
        subst w_28
        cases htx_28 : tx uN with
        | none =>
          refine wd_topE (y := -1) rfl ?_
          refine lv_iconst (v := 2) hx hb dX3_read_31 (by decide) ?_
          refine lv_icmp_eq (tgt := 54) hx hb dX3_read_32 (by decide) (fun c_32 => ?_) (fun c_32 => ?_)
          ·
            exact absurd c_32 (by decide)
          ·
            refine lv_aload_n hx hb dX3_read_35 rfl (lv_at hl 0 rfl) ?_
            refine lv_aload_n hx hb dX3_read_36 rfl (lv_at hl 0 rfl) ?_
            refine lv_iload_n hx hb dX3_read_37 rfl (lv_at hl 2 rfl) ?_
            refine wd_callVi (As := [.int (nI uN)]) (rest := [.ref m]) (c2 := 0) (s2 := 0) ⟨hx, hb, hml, hown, hts⟩ (k_X3_sortOf l D cI cT w H.size m A (kI kp) (fun r => nI (rs r).2.length) fI kp.length cd pl XD XP XU XO XB tx rs uN hR (by omega) hlv) (cwV 1 hts gX3_read_X3_sortOf rfl rfl rfl (by decide +kernel) ⟨Nat.le_of_ble_eq_true rfl, Nat.le_of_ble_eq_true rfl⟩) gK_ok hK hW (wd_recv (ci := 3) hK.1 hW rfl hR.1) hS hA rfl hl.1 rfl (Nat.le_of_ble_eq_true rfl) dX3_read_38 ⟨Nat.le_of_ble_eq_true rfl, Nat.le_of_ble_eq_true rfl⟩ rfl rfl (fun r_38 w_38 H locs hp_38 hW hz hS => ?_)
            obtain ⟨q_r, q_w⟩ := hp_38
            subst r_38
            subst w_38
            refine wd_topE (y := (-1)) (by rw [htx_28]; rfl) ?_
            refine lv_iconst (v := (-1)) hx hb dX3_read_41 (by decide) ?_
            refine lv_icmp_ne (tgt := 49) hx hb dX3_read_42 (by decide) (fun c_42 => ?_) (fun c_42 => ?_)
            ·
              exact absurd rfl c_42
            ·
              refine lv_iconst (v := 1) hx hb dX3_read_45 (by decide) ?_
              refine lv_goto (tgt := 50) hx hb dX3_read_46 (by decide) ?_
              refine wd_callVi (As := [.int 1]) (rest := []) (c2 := 0) (s2 := 0) ⟨hx, hb, hml, hown, hts⟩ (k_X3_no l D cI cT w H.size m A (fun t => oI (tx t)) (kI kp) (fun r => (rs r).1) (fun r => nI (rs r).2.length) fI kp.length cd pl XD XP XU XO XB 1 hR) (cwV 1 hts gX3_read_X3_no rfl rfl rfl (by decide +kernel) ⟨Nat.le_of_ble_eq_true rfl, Nat.le_of_ble_eq_true rfl⟩) gK_ok hK hW (wd_recv (ci := 3) hK.1 hW rfl hR.1) hS hA rfl hl.1 rfl (Nat.le_of_ble_eq_true rfl) dX3_read_50 ⟨Nat.le_of_ble_eq_true rfl, Nat.le_of_ble_eq_true rfl⟩ rfl rfl (fun r_50 w_50 H locs hp_50 hW hz hS => ?_)
              obtain ⟨q_r, hR⟩ := hp_50
              subst r_50
              refine wd_iret hx hb hr hlocks hW hS dX3_read_53 ?_
              have e9 : s_read (cd, pl, df, tx, kp, rs) (nI tN) (nI uN) form = (0, 1, pl, df, tx, kp, rs) := by simp only [s_read, if_neg (not_or.mpr ⟨c_4, (not_or.mpr ⟨c_11, c_20⟩)⟩), s_w1, s_no, s_mk, s_brk, hcl_t, hcl_u, htx_28]
              show _ = (s_read (cd, pl, df, tx, kp, rs) (nI tN) (nI uN) form).1 ∧ InvR cI m (s_read (cd, pl, df, tx, kp, rs) (nI tN) (nI uN) form).2 _
              rw [e9]
              exact ⟨rfl, A, fI, XD, XP, XU, XO, XB, hR, hdf, hit⟩
        | some r_28 =>
          refine wd_topE (y := (rs r_28).1) rfl ?_
          have hr24_28 := hlv _ _ htx_28
          refine lv_iconst (v := 2) hx hb dX3_read_31 (by decide) ?_
          refine lv_icmp_eq (tgt := 54) hx hb dX3_read_32 (by decide) (fun c_32 => ?_) (fun c_32 => ?_)
          ·
            have hlen := (hok _ _ htx_28).len
            refine lv_aload_n hx hb dX3_read_54 rfl (lv_at hl 0 rfl) ?_
            refine lv_iload_n hx hb dX3_read_55 rfl (lv_at hl 2 rfl) ?_
            refine wd_callVi (As := [.int (nI uN)]) (rest := []) (c2 := 0) (s2 := 0) ⟨hx, hb, hml, hown, hts⟩ (k_X3_manyOf l D cI cT w H.size m A (kI kp) (fun r => (rs r).1) fI kp.length cd pl XD XP XU XO XB tx rs uN r_28 hR (by omega) htx_28 hr24_28) (cwV 1 hts gX3_read_X3_manyOf rfl rfl rfl (by decide +kernel) ⟨Nat.le_of_ble_eq_true rfl, Nat.le_of_ble_eq_true rfl⟩) gK_ok hK hW (wd_recv (ci := 3) hK.1 hW rfl hR.1) hS hA rfl hl.1 rfl (Nat.le_of_ble_eq_true rfl) dX3_read_56 ⟨Nat.le_of_ble_eq_true rfl, Nat.le_of_ble_eq_true rfl⟩ rfl rfl (fun r_56 w_56 H locs hp_56 hW hz hS => ?_)
            obtain ⟨q_r, q_w⟩ := hp_56
            subst r_56
            subst w_56
            refine lv_istore (lv' := [(4, .int (nI ((rs r_28).2.length))), (0, .ref m), (1, .int (nI tN)), (2, .int (nI uN)), (3, .int form)]) hx hb dX3_read_59 hl (by decide) rfl (fun ls hl => ?_)
            refine lv_aload_n hx hb dX3_read_61 rfl (lv_at hl 1 rfl) ?_
            refine lv_iconst (v := 0) hx hb dX3_read_62 (by decide) ?_
            refine wd_put (ci := 3) (v := .int 0) (ty := .int) (C := RX3) (T := TX3) (N := 18) hx hb hts (by decide +kernel) tyX3 tyX3_ok nmX3 hown hK.1 hW hS hR.1 rfl 13 (by decide) (hts (.fieldLink RX3 71 "CharRowsModel" "unitMany" "I") (by decide +kernel)) (fun _ h9 => h9) rfl (by decide +kernel) rfl rfl (Nat.le_of_ble_eq_true rfl) dX3_read_63 (fun H locs hW hS => ?_)
            obtain ⟨w_v1, hW, hR⟩ : ∃ w', wd_P D vwCl (wd_A w sg.heap.size) w' H ∧ rW cI m A (fun t => oI (tx t)) (kI kp) (fun r => (rs r).1) (fun r => nI (rs r).2.length) fI kp.length cd pl XD XP (XU.1, 0) XO XB w' := ⟨_, hW, hR.cXU 0⟩
            refine lv_iconst (v := 0) hx hb dX3_read_66 (by decide) ?_
            refine lv_istore (lv' := [(5, .int 0), (4, .int (nI ((rs r_28).2.length))), (0, .ref m), (1, .int (nI tN)), (2, .int (nI uN)), (3, .int form)]) hx hb dX3_read_67 hl (by decide) rfl (fun ls hl => ?_)
            refine wd_loop3 (fun (aN : Nat) (mF : Nat) (Y : Rw) (H : Heap) (locs : List Loc) (ls : Array Slot) => ((rs r_28).2.length ≤ aN + mF) ∧ (u_rd form (rs r_28).2 (rs r_28).2.length 0 [] = u_rd form (rs r_28).2 mF aN (rl Y)) ∧ (Y.2 ≤ 60) ∧ (aN ≤ (rs r_28).2.length + 4) ∧ (∃ w', wd_P D vwCl (wd_A w sg.heap.size) w' H ∧ rW cI m A (fun t => oI (tx t)) (kI kp) (fun r => (rs r).1) (fun r => nI (rs r).2.length) fI kp.length cd pl XD XP Y XO XB w') ∧ va_S (wd_A w sg.heap.size) sg.heap H locs ∧ lv_has ls 9 [(0, .ref m), (1, .int (nI tN)), (2, .int (nI uN)), (3, .int form), (4, .int (nI ((rs r_28).2.length))), (5, .int (nI aN))]) (fun (aN : Nat) (mF : Nat) (Y : Rw) => mF) 0 ((rs r_28).2.length) (XU.1, 0) ⟨(by omega), rfl, (by show 0 ≤ 60; omega), (by omega), ⟨_, hW, hR⟩, hS, (lv_sub hl [2, 3, 4, 5, 1, 0] rfl)⟩ (fun aN mF Y H locs ls hI ih_69 => ?_)
            obtain ⟨hmF, hI2, hY60, haN4, ⟨w_l69, hW, hR⟩, hS, hl⟩ := hI
            refine lv_iload hx hb dX3_read_69 (lv_at hl 5 rfl) ?_
            refine lv_iload hx hb dX3_read_71 (lv_at hl 4 rfl) ?_
            refine lv_icmp_ge (tgt := 235) hx hb dX3_read_73 (by decide) (fun c_73 => ?_) (fun c_73 => ?_)
            ·
              have c_73 : (rs r_28).2.length ≤ aN := (nI_leI (by omega) (by omega)).mp (show (nI ((rs r_28).2.length) ≤ nI aN) from c_73)
              refine lv_aload_n hx hb dX3_read_235 rfl (lv_at hl 0 rfl) ?_
              refine lv_iload_n hx hb dX3_read_236 rfl (lv_at hl 1 rfl) ?_
              refine lv_iconst (v := 0) hx hb dX3_read_237 (by decide) ?_
              refine lv_aload_n hx hb dX3_read_238 rfl (lv_at hl 0 rfl) ?_
              refine wd_get (ci := 3) (v := .ref (A 7)) (C := RX3) (T := TX3) (N := 18) hx hb hts (by decide +kernel) hown hK.1 hW hR.1 rfl 12 (by decide) (hts (.fieldLink RX3 35 "CharRowsModel" "units" "[I") (by decide +kernel)) (fun _ h9 => h9) rfl dX3_read_239 ?_
              refine lv_aload_n hx hb dX3_read_242 rfl (lv_at hl 0 rfl) ?_
              refine wd_get (ci := 3) (v := .int (nI Y.2)) (C := RX3) (T := TX3) (N := 18) hx hb hts (by decide +kernel) hown hK.1 hW hR.1 rfl 13 (by decide) (hts (.fieldLink RX3 71 "CharRowsModel" "unitMany" "I") (by decide +kernel)) (fun _ h9 => h9) rfl dX3_read_243 ?_
              refine wd_callVi (As := [.int (nI tN), .int 0, .ref (A 7), .int (nI Y.2)]) (rest := []) (c2 := 0) (s2 := 0) ⟨hx, hb, hml, hown, hts⟩ (k_X3_become7 l D cI cT w_l69 H.size m A fI cd pl XD XP Y XO XB tx kp rs tN 0 Y.2 hR (by omega) h10 hkp hlv hk24 hit (by omega)) (cwV 4 hts gX3_read_X3_become rfl rfl rfl (by decide +kernel) ⟨Nat.le_of_ble_eq_true rfl, Nat.le_of_ble_eq_true rfl⟩) gK_ok hK hW (wd_recv (ci := 3) hK.1 hW rfl hR.1) hS hA rfl hl.1 rfl (Nat.le_of_ble_eq_true rfl) dX3_read_246 ⟨Nat.le_of_ble_eq_true rfl, Nat.le_of_ble_eq_true rfl⟩ rfl rfl (fun r_246 w_246 H locs hp_246 hW hz hS => ?_)
              obtain ⟨q_r, f_246, hit_246, hR⟩ := hp_246
              subst r_246
              refine wd_iret hx hb hr hlocks hW hS dX3_read_249 ?_
              have e9 : s_read (cd, pl, df, tx, kp, rs) (nI tN) (nI uN) form = (nI Y.2, 0, pl, df, (va_up tx tN (some (u_free tx kp))), kp, (va_up rs (u_free tx kp) (0, (rl (Y.1, Y.2))))) := by simp only [s_read, if_neg (not_or.mpr ⟨c_4, (not_or.mpr ⟨c_11, c_20⟩)⟩), s_w1, s_no, s_mk, s_brk, if_neg (not_not_intro c_32), show u_rd form (rs r_28).2 (rs r_28).2.length 0 [] = (-1, rl Y) from hI2.trans (u_rd_out (Or.inl (by omega))), ne_eq, not_true_eq_false, if_false, rl_len, if_neg (show ¬ 60 < Y.2 by omega), hcl_t, hcl_u, htx_28]
              show _ = (s_read (cd, pl, df, tx, kp, rs) (nI tN) (nI uN) form).1 ∧ InvR cI m (s_read (cd, pl, df, tx, kp, rs) (nI tN) (nI uN) form).2 _
              rw [e9]
              exact ⟨rfl, A, f_246, XD, XP, Y, XO, XB, hR, hdf, hit_246⟩
            ·
              have c_73 : ¬ ((rs r_28).2.length ≤ aN) := fun q9 => absurd ((nI_leI (by omega) (by omega)).mpr q9) (show ¬ (nI ((rs r_28).2.length) ≤ nI aN) from c_73)
              refine lv_aload_n hx hb dX3_read_76 rfl (lv_at hl 0 rfl) ?_
              refine lv_iload_n hx hb dX3_read_77 rfl (lv_at hl 2 rfl) ?_
              refine lv_iload hx hb dX3_read_78 (lv_at hl 5 rfl) ?_
              refine wd_callVi (As := [.int (nI uN), .int (nI aN)]) (rest := []) (c2 := 0) (s2 := 0) ⟨hx, hb, hml, hown, hts⟩ (k_X3_item l D cI cT w_l69 H.size m A (kI kp) (fun r => (rs r).1) (fun r => nI (rs r).2.length) fI kp.length cd pl XD XP Y XO XB tx rs uN r_28 aN hR (by omega) htx_28 hr24_28 hit (by omega)) (cwV 2 hts gX3_read_X3_item rfl rfl rfl (by decide +kernel) ⟨Nat.le_of_ble_eq_true rfl, Nat.le_of_ble_eq_true rfl⟩) gK_ok hK hW (wd_recv (ci := 3) hK.1 hW rfl hR.1) hS hA rfl hl.1 rfl (Nat.le_of_ble_eq_true rfl) dX3_read_80 ⟨Nat.le_of_ble_eq_true rfl, Nat.le_of_ble_eq_true rfl⟩ rfl rfl (fun r_80 w_80 H locs hp_80 hW hz hS => ?_)
              obtain ⟨q_r, q_w⟩ := hp_80
              subst r_80
              subst w_80
              refine lv_istore (lv' := [(6, .int (lf (rs r_28).2 aN)), (0, .ref m), (1, .int (nI tN)), (2, .int (nI uN)), (3, .int form), (4, .int (nI ((rs r_28).2.length))), (5, .int (nI aN))]) hx hb dX3_read_83 hl (by decide) rfl (fun ls hl => ?_)
              refine lv_iload_n hx hb dX3_read_85 rfl (lv_at hl 4 rfl) ?_
              refine lv_if_ne (tgt := 97) hx hb dX3_read_86 (by decide) (fun c_86 => ?_) (fun c_86 => ?_)
              ·
                refine lv_iload_n hx hb dX3_read_97 rfl (lv_at hl 4 rfl) ?_
                refine lv_iconst (v := 3) hx hb dX3_read_98 (by decide) ?_
                refine lv_icmp_ne (tgt := 106) hx hb dX3_read_99 (by decide) (fun c_99 => ?_) (fun c_99 => ?_)
                ·
                  refine lv_iconst (v := 2) hx hb dX3_read_106 (by decide) ?_
                  refine lv_istore (lv' := [(7, .int 2), (6, .int (lf (rs r_28).2 aN)), (0, .ref m), (1, .int (nI tN)), (2, .int (nI uN)), (3, .int form), (4, .int (nI ((rs r_28).2.length))), (5, .int (nI aN))]) hx hb dX3_read_107 hl (by decide) rfl (fun ls hl => ?_)
                  refine lv_iload_n hx hb dX3_read_109 rfl (lv_at hl 5 rfl) ?_
                  refine lv_if_ne (tgt := 125) hx hb dX3_read_110 (by decide) (fun c_110 => ?_) (fun c_110 => ?_)
                  ·
                    refine lv_iload_n hx hb dX3_read_125 rfl (lv_at hl 5 rfl) ?_
                    refine lv_iconst (v := 3) hx hb dX3_read_126 (by decide) ?_
                    refine lv_icmp_ne (tgt := 135) hx hb dX3_read_127 (by decide) (fun c_127 => ?_) (fun c_127 => ?_)
                    ·
                      refine lv_iload hx hb dX3_read_135 (lv_at hl 7 rfl) ?_
                      refine lv_iconst (v := 1) hx hb dX3_read_137 (by decide) ?_
                      refine lv_iadd hx hb dX3_read_138 ?_
                      refine wd_topE (y := nI (aN + 1)) (nI_1 aN) ?_
                      refine lv_iload hx hb dX3_read_139 (lv_at hl 6 rfl) ?_
                      refine lv_icmp_ne (tgt := 148) hx hb dX3_read_141 (by decide) (fun c_141 => ?_) (fun c_141 => ?_)
                      ·
                        have c_141 : ¬ (aN + 1 = (rs r_28).2.length) := fun q9 => absurd ((nI_eq (by omega) (by omega)).mpr q9) (show ¬ (nI (aN + 1) = nI ((rs r_28).2.length)) from c_141)
                        refine lv_iload_n hx hb dX3_read_148 rfl (lv_at hl 5 rfl) ?_
                        refine lv_iconst (v := 1) hx hb dX3_read_149 (by decide) ?_
                        refine lv_icmp_ne (tgt := 172) hx hb dX3_read_150 (by decide) (fun c_150 => ?_) (fun c_150 => ?_)
                        ·
                          refine lv_iload hx hb dX3_read_172 (lv_at hl 1 rfl) ?_
                          refine lv_sipush (v := 256) hx hb dX3_read_174 (by decide) ?_
                          refine lv_aload_n hx hb dX3_read_177 rfl (lv_at hl 2 rfl) ?_
                          refine lv_iload_n hx hb dX3_read_178 rfl (lv_at hl 4 rfl) ?_
                          refine lv_iload hx hb dX3_read_179 (lv_at hl 7 rfl) ?_
                          refine lv_iconst (v := 1) hx hb dX3_read_181 (by decide) ?_
                          refine lv_iadd hx hb dX3_read_182 ?_
                          refine wd_topE (y := nI (aN + 1)) (nI_1 aN) ?_
                          refine wd_callVi (As := [.int (nI uN), .int (nI (aN + 1))]) (rest := [.int 256, .int (lf (rs r_28).2 aN)]) (c2 := 0) (s2 := 0) ⟨hx, hb, hml, hown, hts⟩ (k_X3_item l D cI cT w_l69 H.size m A (kI kp) (fun r => (rs r).1) (fun r => nI (rs r).2.length) fI kp.length cd pl XD XP Y XO XB tx rs uN r_28 (aN + 1) hR (by omega) htx_28 hr24_28 hit (by omega)) (cwV 2 hts gX3_read_X3_item rfl rfl rfl (by decide +kernel) ⟨Nat.le_of_ble_eq_true rfl, Nat.le_of_ble_eq_true rfl⟩) gK_ok hK hW (wd_recv (ci := 3) hK.1 hW rfl hR.1) hS hA rfl hl.1 rfl (Nat.le_of_ble_eq_true rfl) dX3_read_183 ⟨Nat.le_of_ble_eq_true rfl, Nat.le_of_ble_eq_true rfl⟩ rfl rfl (fun r_183 w_183 H locs hp_183 hW hz hS => ?_)
                          obtain ⟨q_r, q_w⟩ := hp_183
                          subst r_183
                          subst w_183
                          refine lv_imul hx hb dX3_read_186 ?_
                          refine lv_iadd hx hb dX3_read_187 ?_
                          refine wd_topE (y := u_p form (rs r_28).2 aN) (by rw [u_p, if_neg c_86, if_neg c_99, if_neg c_141, if_neg c_150, Int32.mul_comm, Int32.add_comm]) ?_
                          refine lv_istore (lv' := [(8, .int (u_p form (rs r_28).2 aN)), (7, .int 2), (6, .int (lf (rs r_28).2 aN)), (0, .ref m), (1, .int (nI tN)), (2, .int (nI uN)), (3, .int form), (4, .int (nI ((rs r_28).2.length))), (5, .int (nI aN))]) hx hb dX3_read_188 hl (by decide) rfl (fun ls hl => ?_)
                          refine lv_iload hx hb dX3_read_190 (lv_at hl 0 rfl) ?_
                          refine lv_iconst (v := (-1)) hx hb dX3_read_192 (by decide) ?_
                          refine lv_icmp_ne (tgt := 203) hx hb dX3_read_193 (by decide) (fun c_193 => ?_) (fun c_193 => ?_)
                          ·
                            have hul := u_units_le (u_p form (rs r_28).2 aN)
                            refine lv_aload_n hx hb dX3_read_203 rfl (lv_at hl 3 rfl) ?_
                            refine lv_iload hx hb dX3_read_204 (lv_at hl 0 rfl) ?_
                            refine wd_callVv (As := [.int (u_p form (rs r_28).2 aN)]) (rest := []) (c2 := 0) (s2 := 0) ⟨hx, hb, hml, hown, hts⟩ (k_X3_addUnits l D cI cT w_l69 H.size m A (fun t => oI (tx t)) (kI kp) (fun r => (rs r).1) (fun r => nI (rs r).2.length) fI kp.length cd pl XD XP Y XO XB (u_p form (rs r_28).2 aN) hR (by omega)) (cwV 1 hts gX3_read_X3_addUnits rfl rfl rfl (by decide +kernel) ⟨Nat.le_of_ble_eq_true rfl, Nat.le_of_ble_eq_true rfl⟩) gK_ok hK hW (wd_recv (ci := 3) hK.1 hW rfl hR.1) hS hA rfl hl.1 rfl (Nat.le_of_ble_eq_true rfl) dX3_read_206 ⟨Nat.le_of_ble_eq_true rfl, Nat.le_of_ble_eq_true rfl⟩ rfl rfl (fun w_206 H locs hp_206 hW hz hS => ?_)
                            have hR := hp_206
                            have hru : rl (r_uni 480 (u_p form (rs r_28).2 aN) Y) = rl Y ++ u_units (u_p form (rs r_28).2 aN) := rl_uni (by omega)
                            have hruc := r_uni_cnt (n := 480) (p := u_p form (rs r_28).2 aN) (Y := Y)
                            have hacc := congrArg List.length hru
                            rw [rl_len] at hacc
                            refine lv_aload_n hx hb dX3_read_209 rfl (lv_at hl 3 rfl) ?_
                            refine wd_get (ci := 3) (v := .int (nI ((r_uni 480 (u_p form (rs r_28).2 aN) Y).2))) (C := RX3) (T := TX3) (N := 18) hx hb hts (by decide +kernel) hown hK.1 hW hR.1 rfl 13 (by decide) (hts (.fieldLink RX3 71 "CharRowsModel" "unitMany" "I") (by decide +kernel)) (fun _ h9 => h9) rfl dX3_read_210 ?_
                            refine lv_bipush (v := 60) hx hb dX3_read_213 (by decide) ?_
                            refine lv_icmp_le (tgt := 225) hx hb dX3_read_215 (by decide) (fun c_215 => ?_) (fun c_215 => ?_)
                            ·
                              have c_215 : (r_uni 480 (u_p form (rs r_28).2 aN) Y).2 ≤ 60 := (nI_leI (by omega) (by omega)).mp (show (nI ((r_uni 480 (u_p form (rs r_28).2 aN) Y).2) ≤ nI 60) from c_215)
                              refine lv_iload hx hb dX3_read_225 (lv_at hl 8 rfl) ?_
                              refine lv_iload hx hb dX3_read_227 (lv_at hl 1 rfl) ?_
                              refine lv_iadd hx hb dX3_read_229 ?_
                              refine wd_topE (y := nI (aN + 2)) (show nI aN + nI _ = _ from nI_add _ _) ?_
                              refine lv_istore (lv' := [(5, .int (nI (aN + 2))), (8, .int (u_p form (rs r_28).2 aN)), (7, .int 2), (6, .int (lf (rs r_28).2 aN)), (0, .ref m), (1, .int (nI tN)), (2, .int (nI uN)), (3, .int form), (4, .int (nI ((rs r_28).2.length)))]) hx hb dX3_read_230 hl (by decide) rfl (fun ls hl => ?_)
                              refine lv_goto (tgt := 69) hx hb dX3_read_232 (by decide) ?_
                              exact ih_69 (aN + 2) (mF - 1) (r_uni 480 (u_p form (rs r_28).2 aN) Y) H locs ls ⟨(by omega), (hI2.trans ((u_rd_go (by omega) (by rw [rl_len]; omega) c_193 (by omega)).trans (by rw [show u_sz form (rs r_28).2 aN = 2 from (by rw [u_sz, if_neg c_86, if_neg c_99]), hru]))), (by omega), (by omega), ⟨_, hW, hR⟩, hS, (lv_sub hl [4, 5, 6, 7, 8, 0] rfl)⟩ (by omega)
                            ·
                              have c_215 : ¬ ((r_uni 480 (u_p form (rs r_28).2 aN) Y).2 ≤ 60) := fun q9 => absurd ((nI_leI (by omega) (by omega)).mpr q9) (show ¬ (nI ((r_uni 480 (u_p form (rs r_28).2 aN) Y).2) ≤ nI 60) from c_215)
                              refine lv_aload_n hx hb dX3_read_218 rfl (lv_at hl 3 rfl) ?_
                              refine lv_bipush (v := 6) hx hb dX3_read_219 (by decide) ?_
                              refine wd_callVi (As := [.int 6]) (rest := []) (c2 := 0) (s2 := 0) ⟨hx, hb, hml, hown, hts⟩ (k_X3_no l D cI cT w_206 H.size m A (fun t => oI (tx t)) (kI kp) (fun r => (rs r).1) (fun r => nI (rs r).2.length) fI kp.length cd pl XD XP (r_uni 480 (u_p form (rs r_28).2 aN) Y) XO XB 6 hR) (cwV 1 hts gX3_read_X3_no rfl rfl rfl (by decide +kernel) ⟨Nat.le_of_ble_eq_true rfl, Nat.le_of_ble_eq_true rfl⟩) gK_ok hK hW (wd_recv (ci := 3) hK.1 hW rfl hR.1) hS hA rfl hl.1 rfl (Nat.le_of_ble_eq_true rfl) dX3_read_221 ⟨Nat.le_of_ble_eq_true rfl, Nat.le_of_ble_eq_true rfl⟩ rfl rfl (fun r_221 w_221 H locs hp_221 hW hz hS => ?_)
                              obtain ⟨q_r, hR⟩ := hp_221
                              subst r_221
                              refine wd_iret hx hb hr hlocks hW hS dX3_read_224 ?_
                              have e9 : s_read (cd, pl, df, tx, kp, rs) (nI tN) (nI uN) form = (0, 6, pl, df, tx, kp, rs) := by simp only [s_read, if_neg (not_or.mpr ⟨c_4, (not_or.mpr ⟨c_11, c_20⟩)⟩), s_w1, s_no, s_mk, s_brk, if_neg (not_not_intro c_32), show u_rd form (rs r_28).2 (rs r_28).2.length 0 [] = (-1, rl (r_uni 480 (u_p form (rs r_28).2 aN) Y)) from by rw [hI2, u_rd_go (by omega) (by rw [rl_len]; omega) c_193 (by omega), ← hru, u_rd_out (Or.inr (by rw [rl_len]; omega))], ne_eq, not_true_eq_false, if_false, rl_len, if_pos (show 60 < (r_uni 480 (u_p form (rs r_28).2 aN) Y).2 by omega), hcl_t, hcl_u, htx_28]
                              show _ = (s_read (cd, pl, df, tx, kp, rs) (nI tN) (nI uN) form).1 ∧ InvR cI m (s_read (cd, pl, df, tx, kp, rs) (nI tN) (nI uN) form).2 _
                              rw [e9]
                              exact ⟨rfl, A, fI, XD, XP, (r_uni 480 (u_p form (rs r_28).2 aN) Y), XO, XB, hR, hdf, hit⟩
                          ·
                            refine lv_aload_n hx hb dX3_read_196 rfl (lv_at hl 3 rfl) ?_
                            refine lv_iload hx hb dX3_read_197 (lv_at hl 8 rfl) ?_
                            refine wd_callVi (As := [.int (nI aN)]) (rest := []) (c2 := 0) (s2 := 0) ⟨hx, hb, hml, hown, hts⟩ (k_X3_breaks l D cI cT w_l69 H.size m A (fun t => oI (tx t)) (kI kp) (fun r => (rs r).1) (fun r => nI (rs r).2.length) fI kp.length cd pl XD XP Y XO XB (nI aN) hR) (cwV 1 hts gX3_read_X3_breaks rfl rfl rfl (by decide +kernel) ⟨Nat.le_of_ble_eq_true rfl, Nat.le_of_ble_eq_true rfl⟩) gK_ok hK hW (wd_recv (ci := 3) hK.1 hW rfl hR.1) hS hA rfl hl.1 rfl (Nat.le_of_ble_eq_true rfl) dX3_read_199 ⟨Nat.le_of_ble_eq_true rfl, Nat.le_of_ble_eq_true rfl⟩ rfl rfl (fun r_199 w_199 H locs hp_199 hW hz hS => ?_)
                            obtain ⟨q_r, hR⟩ := hp_199
                            subst r_199
                            refine wd_iret hx hb hr hlocks hW hS dX3_read_202 ?_
                            have e9 : s_read (cd, pl, df, tx, kp, rs) (nI tN) (nI uN) form = (0, 5, nI aN, df, tx, kp, rs) := by simp only [s_read, if_neg (not_or.mpr ⟨c_4, (not_or.mpr ⟨c_11, c_20⟩)⟩), s_w1, s_no, s_mk, s_brk, if_neg (not_not_intro c_32), show u_rd form (rs r_28).2 (rs r_28).2.length 0 [] = (nI aN, rl Y) from hI2.trans (u_rd_bad (by omega) (by rw [rl_len]; omega) c_193 (by omega)), if_pos (nI_ne_m1 (k := aN) (by omega)), hcl_t, hcl_u, htx_28]
                            show _ = (s_read (cd, pl, df, tx, kp, rs) (nI tN) (nI uN) form).1 ∧ InvR cI m (s_read (cd, pl, df, tx, kp, rs) (nI tN) (nI uN) form).2 _
                            rw [e9]
                            exact ⟨rfl, A, fI, XD, XP, Y, XO, XB, hR, hdf, hit⟩
                        ·
                          refine lv_sipush (v := 256) hx hb dX3_read_153 (by decide) ?_
                          refine lv_iload hx hb dX3_read_156 (lv_at hl 1 rfl) ?_
                          refine lv_imul hx hb dX3_read_158 ?_
                          refine lv_aload_n hx hb dX3_read_159 rfl (lv_at hl 2 rfl) ?_
                          refine lv_iload_n hx hb dX3_read_160 rfl (lv_at hl 4 rfl) ?_
                          refine lv_iload hx hb dX3_read_161 (lv_at hl 7 rfl) ?_
                          refine lv_iconst (v := 1) hx hb dX3_read_163 (by decide) ?_
                          refine lv_iadd hx hb dX3_read_164 ?_
                          refine wd_topE (y := nI (aN + 1)) (nI_1 aN) ?_
                          refine wd_callVi (As := [.int (nI uN), .int (nI (aN + 1))]) (rest := [.int (256 * (lf (rs r_28).2 aN))]) (c2 := 0) (s2 := 0) ⟨hx, hb, hml, hown, hts⟩ (k_X3_item l D cI cT w_l69 H.size m A (kI kp) (fun r => (rs r).1) (fun r => nI (rs r).2.length) fI kp.length cd pl XD XP Y XO XB tx rs uN r_28 (aN + 1) hR (by omega) htx_28 hr24_28 hit (by omega)) (cwV 2 hts gX3_read_X3_item rfl rfl rfl (by decide +kernel) ⟨Nat.le_of_ble_eq_true rfl, Nat.le_of_ble_eq_true rfl⟩) gK_ok hK hW (wd_recv (ci := 3) hK.1 hW rfl hR.1) hS hA rfl hl.1 rfl (Nat.le_of_ble_eq_true rfl) dX3_read_165 ⟨Nat.le_of_ble_eq_true rfl, Nat.le_of_ble_eq_true rfl⟩ rfl rfl (fun r_165 w_165 H locs hp_165 hW hz hS => ?_)
                          obtain ⟨q_r, q_w⟩ := hp_165
                          subst r_165
                          subst w_165
                          refine lv_iadd hx hb dX3_read_168 ?_
                          refine lv_goto (tgt := 188) hx hb dX3_read_169 (by decide) ?_
                          refine wd_topE (y := u_p form (rs r_28).2 aN) (by rw [u_p, if_neg c_86, if_neg c_99, if_neg c_141, if_pos c_150, Int32.mul_comm]) ?_
                          refine lv_istore (lv' := [(8, .int (u_p form (rs r_28).2 aN)), (7, .int 2), (6, .int (lf (rs r_28).2 aN)), (0, .ref m), (1, .int (nI tN)), (2, .int (nI uN)), (3, .int form), (4, .int (nI ((rs r_28).2.length))), (5, .int (nI aN))]) hx hb dX3_read_188 hl (by decide) rfl (fun ls hl => ?_)
                          refine lv_iload hx hb dX3_read_190 (lv_at hl 0 rfl) ?_
                          refine lv_iconst (v := (-1)) hx hb dX3_read_192 (by decide) ?_
                          refine lv_icmp_ne (tgt := 203) hx hb dX3_read_193 (by decide) (fun c_193 => ?_) (fun c_193 => ?_)
                          ·
                            have hul := u_units_le (u_p form (rs r_28).2 aN)
                            refine lv_aload_n hx hb dX3_read_203 rfl (lv_at hl 3 rfl) ?_
                            refine lv_iload hx hb dX3_read_204 (lv_at hl 0 rfl) ?_
                            refine wd_callVv (As := [.int (u_p form (rs r_28).2 aN)]) (rest := []) (c2 := 0) (s2 := 0) ⟨hx, hb, hml, hown, hts⟩ (k_X3_addUnits l D cI cT w_l69 H.size m A (fun t => oI (tx t)) (kI kp) (fun r => (rs r).1) (fun r => nI (rs r).2.length) fI kp.length cd pl XD XP Y XO XB (u_p form (rs r_28).2 aN) hR (by omega)) (cwV 1 hts gX3_read_X3_addUnits rfl rfl rfl (by decide +kernel) ⟨Nat.le_of_ble_eq_true rfl, Nat.le_of_ble_eq_true rfl⟩) gK_ok hK hW (wd_recv (ci := 3) hK.1 hW rfl hR.1) hS hA rfl hl.1 rfl (Nat.le_of_ble_eq_true rfl) dX3_read_206 ⟨Nat.le_of_ble_eq_true rfl, Nat.le_of_ble_eq_true rfl⟩ rfl rfl (fun w_206 H locs hp_206 hW hz hS => ?_)
                            have hR := hp_206
                            have hru : rl (r_uni 480 (u_p form (rs r_28).2 aN) Y) = rl Y ++ u_units (u_p form (rs r_28).2 aN) := rl_uni (by omega)
                            have hruc := r_uni_cnt (n := 480) (p := u_p form (rs r_28).2 aN) (Y := Y)
                            have hacc := congrArg List.length hru
                            rw [rl_len] at hacc
                            refine lv_aload_n hx hb dX3_read_209 rfl (lv_at hl 3 rfl) ?_
                            refine wd_get (ci := 3) (v := .int (nI ((r_uni 480 (u_p form (rs r_28).2 aN) Y).2))) (C := RX3) (T := TX3) (N := 18) hx hb hts (by decide +kernel) hown hK.1 hW hR.1 rfl 13 (by decide) (hts (.fieldLink RX3 71 "CharRowsModel" "unitMany" "I") (by decide +kernel)) (fun _ h9 => h9) rfl dX3_read_210 ?_
                            refine lv_bipush (v := 60) hx hb dX3_read_213 (by decide) ?_
                            refine lv_icmp_le (tgt := 225) hx hb dX3_read_215 (by decide) (fun c_215 => ?_) (fun c_215 => ?_)
                            ·
                              have c_215 : (r_uni 480 (u_p form (rs r_28).2 aN) Y).2 ≤ 60 := (nI_leI (by omega) (by omega)).mp (show (nI ((r_uni 480 (u_p form (rs r_28).2 aN) Y).2) ≤ nI 60) from c_215)
                              refine lv_iload hx hb dX3_read_225 (lv_at hl 8 rfl) ?_
                              refine lv_iload hx hb dX3_read_227 (lv_at hl 1 rfl) ?_
                              refine lv_iadd hx hb dX3_read_229 ?_
                              refine wd_topE (y := nI (aN + 2)) (show nI aN + nI _ = _ from nI_add _ _) ?_
                              refine lv_istore (lv' := [(5, .int (nI (aN + 2))), (8, .int (u_p form (rs r_28).2 aN)), (7, .int 2), (6, .int (lf (rs r_28).2 aN)), (0, .ref m), (1, .int (nI tN)), (2, .int (nI uN)), (3, .int form), (4, .int (nI ((rs r_28).2.length)))]) hx hb dX3_read_230 hl (by decide) rfl (fun ls hl => ?_)
                              refine lv_goto (tgt := 69) hx hb dX3_read_232 (by decide) ?_
                              exact ih_69 (aN + 2) (mF - 1) (r_uni 480 (u_p form (rs r_28).2 aN) Y) H locs ls ⟨(by omega), (hI2.trans ((u_rd_go (by omega) (by rw [rl_len]; omega) c_193 (by omega)).trans (by rw [show u_sz form (rs r_28).2 aN = 2 from (by rw [u_sz, if_neg c_86, if_neg c_99]), hru]))), (by omega), (by omega), ⟨_, hW, hR⟩, hS, (lv_sub hl [4, 5, 6, 7, 8, 0] rfl)⟩ (by omega)
                            ·
                              have c_215 : ¬ ((r_uni 480 (u_p form (rs r_28).2 aN) Y).2 ≤ 60) := fun q9 => absurd ((nI_leI (by omega) (by omega)).mpr q9) (show ¬ (nI ((r_uni 480 (u_p form (rs r_28).2 aN) Y).2) ≤ nI 60) from c_215)
                              refine lv_aload_n hx hb dX3_read_218 rfl (lv_at hl 3 rfl) ?_
                              refine lv_bipush (v := 6) hx hb dX3_read_219 (by decide) ?_
                              refine wd_callVi (As := [.int 6]) (rest := []) (c2 := 0) (s2 := 0) ⟨hx, hb, hml, hown, hts⟩ (k_X3_no l D cI cT w_206 H.size m A (fun t => oI (tx t)) (kI kp) (fun r => (rs r).1) (fun r => nI (rs r).2.length) fI kp.length cd pl XD XP (r_uni 480 (u_p form (rs r_28).2 aN) Y) XO XB 6 hR) (cwV 1 hts gX3_read_X3_no rfl rfl rfl (by decide +kernel) ⟨Nat.le_of_ble_eq_true rfl, Nat.le_of_ble_eq_true rfl⟩) gK_ok hK hW (wd_recv (ci := 3) hK.1 hW rfl hR.1) hS hA rfl hl.1 rfl (Nat.le_of_ble_eq_true rfl) dX3_read_221 ⟨Nat.le_of_ble_eq_true rfl, Nat.le_of_ble_eq_true rfl⟩ rfl rfl (fun r_221 w_221 H locs hp_221 hW hz hS => ?_)
                              obtain ⟨q_r, hR⟩ := hp_221
                              subst r_221
                              refine wd_iret hx hb hr hlocks hW hS dX3_read_224 ?_
                              have e9 : s_read (cd, pl, df, tx, kp, rs) (nI tN) (nI uN) form = (0, 6, pl, df, tx, kp, rs) := by simp only [s_read, if_neg (not_or.mpr ⟨c_4, (not_or.mpr ⟨c_11, c_20⟩)⟩), s_w1, s_no, s_mk, s_brk, if_neg (not_not_intro c_32), show u_rd form (rs r_28).2 (rs r_28).2.length 0 [] = (-1, rl (r_uni 480 (u_p form (rs r_28).2 aN) Y)) from by rw [hI2, u_rd_go (by omega) (by rw [rl_len]; omega) c_193 (by omega), ← hru, u_rd_out (Or.inr (by rw [rl_len]; omega))], ne_eq, not_true_eq_false, if_false, rl_len, if_pos (show 60 < (r_uni 480 (u_p form (rs r_28).2 aN) Y).2 by omega), hcl_t, hcl_u, htx_28]
                              show _ = (s_read (cd, pl, df, tx, kp, rs) (nI tN) (nI uN) form).1 ∧ InvR cI m (s_read (cd, pl, df, tx, kp, rs) (nI tN) (nI uN) form).2 _
                              rw [e9]
                              exact ⟨rfl, A, fI, XD, XP, (r_uni 480 (u_p form (rs r_28).2 aN) Y), XO, XB, hR, hdf, hit⟩
                          ·
                            refine lv_aload_n hx hb dX3_read_196 rfl (lv_at hl 3 rfl) ?_
                            refine lv_iload hx hb dX3_read_197 (lv_at hl 8 rfl) ?_
                            refine wd_callVi (As := [.int (nI aN)]) (rest := []) (c2 := 0) (s2 := 0) ⟨hx, hb, hml, hown, hts⟩ (k_X3_breaks l D cI cT w_l69 H.size m A (fun t => oI (tx t)) (kI kp) (fun r => (rs r).1) (fun r => nI (rs r).2.length) fI kp.length cd pl XD XP Y XO XB (nI aN) hR) (cwV 1 hts gX3_read_X3_breaks rfl rfl rfl (by decide +kernel) ⟨Nat.le_of_ble_eq_true rfl, Nat.le_of_ble_eq_true rfl⟩) gK_ok hK hW (wd_recv (ci := 3) hK.1 hW rfl hR.1) hS hA rfl hl.1 rfl (Nat.le_of_ble_eq_true rfl) dX3_read_199 ⟨Nat.le_of_ble_eq_true rfl, Nat.le_of_ble_eq_true rfl⟩ rfl rfl (fun r_199 w_199 H locs hp_199 hW hz hS => ?_)
                            obtain ⟨q_r, hR⟩ := hp_199
                            subst r_199
                            refine wd_iret hx hb hr hlocks hW hS dX3_read_202 ?_
                            have e9 : s_read (cd, pl, df, tx, kp, rs) (nI tN) (nI uN) form = (0, 5, nI aN, df, tx, kp, rs) := by simp only [s_read, if_neg (not_or.mpr ⟨c_4, (not_or.mpr ⟨c_11, c_20⟩)⟩), s_w1, s_no, s_mk, s_brk, if_neg (not_not_intro c_32), show u_rd form (rs r_28).2 (rs r_28).2.length 0 [] = (nI aN, rl Y) from hI2.trans (u_rd_bad (by omega) (by rw [rl_len]; omega) c_193 (by omega)), if_pos (nI_ne_m1 (k := aN) (by omega)), hcl_t, hcl_u, htx_28]
                            show _ = (s_read (cd, pl, df, tx, kp, rs) (nI tN) (nI uN) form).1 ∧ InvR cI m (s_read (cd, pl, df, tx, kp, rs) (nI tN) (nI uN) form).2 _
                            rw [e9]
                            exact ⟨rfl, A, fI, XD, XP, Y, XO, XB, hR, hdf, hit⟩
                      ·
                        have c_141 : aN + 1 = (rs r_28).2.length := (nI_eq (by omega) (by omega)).mp (show (nI (aN + 1) = nI ((rs r_28).2.length)) from c_141)
                        refine lv_iconst (v := (-1)) hx hb dX3_read_144 (by decide) ?_
                        refine lv_goto (tgt := 188) hx hb dX3_read_145 (by decide) ?_
                        refine wd_topE (y := u_p form (rs r_28).2 aN) (by rw [u_p, if_neg c_86, if_neg c_99, if_pos c_141]) ?_
                        refine lv_istore (lv' := [(8, .int (u_p form (rs r_28).2 aN)), (7, .int 2), (6, .int (lf (rs r_28).2 aN)), (0, .ref m), (1, .int (nI tN)), (2, .int (nI uN)), (3, .int form), (4, .int (nI ((rs r_28).2.length))), (5, .int (nI aN))]) hx hb dX3_read_188 hl (by decide) rfl (fun ls hl => ?_)
                        refine lv_iload hx hb dX3_read_190 (lv_at hl 0 rfl) ?_
                        refine lv_iconst (v := (-1)) hx hb dX3_read_192 (by decide) ?_
                        refine lv_icmp_ne (tgt := 203) hx hb dX3_read_193 (by decide) (fun c_193 => ?_) (fun c_193 => ?_)
                        ·
                          have hul := u_units_le (u_p form (rs r_28).2 aN)
                          refine lv_aload_n hx hb dX3_read_203 rfl (lv_at hl 3 rfl) ?_
                          refine lv_iload hx hb dX3_read_204 (lv_at hl 0 rfl) ?_
                          refine wd_callVv (As := [.int (u_p form (rs r_28).2 aN)]) (rest := []) (c2 := 0) (s2 := 0) ⟨hx, hb, hml, hown, hts⟩ (k_X3_addUnits l D cI cT w_l69 H.size m A (fun t => oI (tx t)) (kI kp) (fun r => (rs r).1) (fun r => nI (rs r).2.length) fI kp.length cd pl XD XP Y XO XB (u_p form (rs r_28).2 aN) hR (by omega)) (cwV 1 hts gX3_read_X3_addUnits rfl rfl rfl (by decide +kernel) ⟨Nat.le_of_ble_eq_true rfl, Nat.le_of_ble_eq_true rfl⟩) gK_ok hK hW (wd_recv (ci := 3) hK.1 hW rfl hR.1) hS hA rfl hl.1 rfl (Nat.le_of_ble_eq_true rfl) dX3_read_206 ⟨Nat.le_of_ble_eq_true rfl, Nat.le_of_ble_eq_true rfl⟩ rfl rfl (fun w_206 H locs hp_206 hW hz hS => ?_)
                          have hR := hp_206
                          have hru : rl (r_uni 480 (u_p form (rs r_28).2 aN) Y) = rl Y ++ u_units (u_p form (rs r_28).2 aN) := rl_uni (by omega)
                          have hruc := r_uni_cnt (n := 480) (p := u_p form (rs r_28).2 aN) (Y := Y)
                          have hacc := congrArg List.length hru
                          rw [rl_len] at hacc
                          refine lv_aload_n hx hb dX3_read_209 rfl (lv_at hl 3 rfl) ?_
                          refine wd_get (ci := 3) (v := .int (nI ((r_uni 480 (u_p form (rs r_28).2 aN) Y).2))) (C := RX3) (T := TX3) (N := 18) hx hb hts (by decide +kernel) hown hK.1 hW hR.1 rfl 13 (by decide) (hts (.fieldLink RX3 71 "CharRowsModel" "unitMany" "I") (by decide +kernel)) (fun _ h9 => h9) rfl dX3_read_210 ?_
                          refine lv_bipush (v := 60) hx hb dX3_read_213 (by decide) ?_
                          refine lv_icmp_le (tgt := 225) hx hb dX3_read_215 (by decide) (fun c_215 => ?_) (fun c_215 => ?_)
                          ·
                            have c_215 : (r_uni 480 (u_p form (rs r_28).2 aN) Y).2 ≤ 60 := (nI_leI (by omega) (by omega)).mp (show (nI ((r_uni 480 (u_p form (rs r_28).2 aN) Y).2) ≤ nI 60) from c_215)
                            refine lv_iload hx hb dX3_read_225 (lv_at hl 8 rfl) ?_
                            refine lv_iload hx hb dX3_read_227 (lv_at hl 1 rfl) ?_
                            refine lv_iadd hx hb dX3_read_229 ?_
                            refine wd_topE (y := nI (aN + 2)) (show nI aN + nI _ = _ from nI_add _ _) ?_
                            refine lv_istore (lv' := [(5, .int (nI (aN + 2))), (8, .int (u_p form (rs r_28).2 aN)), (7, .int 2), (6, .int (lf (rs r_28).2 aN)), (0, .ref m), (1, .int (nI tN)), (2, .int (nI uN)), (3, .int form), (4, .int (nI ((rs r_28).2.length)))]) hx hb dX3_read_230 hl (by decide) rfl (fun ls hl => ?_)
                            refine lv_goto (tgt := 69) hx hb dX3_read_232 (by decide) ?_
                            exact ih_69 (aN + 2) (mF - 1) (r_uni 480 (u_p form (rs r_28).2 aN) Y) H locs ls ⟨(by omega), (hI2.trans ((u_rd_go (by omega) (by rw [rl_len]; omega) c_193 (by omega)).trans (by rw [show u_sz form (rs r_28).2 aN = 2 from (by rw [u_sz, if_neg c_86, if_neg c_99]), hru]))), (by omega), (by omega), ⟨_, hW, hR⟩, hS, (lv_sub hl [4, 5, 6, 7, 8, 0] rfl)⟩ (by omega)
                          ·
                            have c_215 : ¬ ((r_uni 480 (u_p form (rs r_28).2 aN) Y).2 ≤ 60) := fun q9 => absurd ((nI_leI (by omega) (by omega)).mpr q9) (show ¬ (nI ((r_uni 480 (u_p form (rs r_28).2 aN) Y).2) ≤ nI 60) from c_215)
                            refine lv_aload_n hx hb dX3_read_218 rfl (lv_at hl 3 rfl) ?_
                            refine lv_bipush (v := 6) hx hb dX3_read_219 (by decide) ?_
                            refine wd_callVi (As := [.int 6]) (rest := []) (c2 := 0) (s2 := 0) ⟨hx, hb, hml, hown, hts⟩ (k_X3_no l D cI cT w_206 H.size m A (fun t => oI (tx t)) (kI kp) (fun r => (rs r).1) (fun r => nI (rs r).2.length) fI kp.length cd pl XD XP (r_uni 480 (u_p form (rs r_28).2 aN) Y) XO XB 6 hR) (cwV 1 hts gX3_read_X3_no rfl rfl rfl (by decide +kernel) ⟨Nat.le_of_ble_eq_true rfl, Nat.le_of_ble_eq_true rfl⟩) gK_ok hK hW (wd_recv (ci := 3) hK.1 hW rfl hR.1) hS hA rfl hl.1 rfl (Nat.le_of_ble_eq_true rfl) dX3_read_221 ⟨Nat.le_of_ble_eq_true rfl, Nat.le_of_ble_eq_true rfl⟩ rfl rfl (fun r_221 w_221 H locs hp_221 hW hz hS => ?_)
                            obtain ⟨q_r, hR⟩ := hp_221
                            subst r_221
                            refine wd_iret hx hb hr hlocks hW hS dX3_read_224 ?_
                            have e9 : s_read (cd, pl, df, tx, kp, rs) (nI tN) (nI uN) form = (0, 6, pl, df, tx, kp, rs) := by simp only [s_read, if_neg (not_or.mpr ⟨c_4, (not_or.mpr ⟨c_11, c_20⟩)⟩), s_w1, s_no, s_mk, s_brk, if_neg (not_not_intro c_32), show u_rd form (rs r_28).2 (rs r_28).2.length 0 [] = (-1, rl (r_uni 480 (u_p form (rs r_28).2 aN) Y)) from by rw [hI2, u_rd_go (by omega) (by rw [rl_len]; omega) c_193 (by omega), ← hru, u_rd_out (Or.inr (by rw [rl_len]; omega))], ne_eq, not_true_eq_false, if_false, rl_len, if_pos (show 60 < (r_uni 480 (u_p form (rs r_28).2 aN) Y).2 by omega), hcl_t, hcl_u, htx_28]
                            show _ = (s_read (cd, pl, df, tx, kp, rs) (nI tN) (nI uN) form).1 ∧ InvR cI m (s_read (cd, pl, df, tx, kp, rs) (nI tN) (nI uN) form).2 _
                            rw [e9]
                            exact ⟨rfl, A, fI, XD, XP, (r_uni 480 (u_p form (rs r_28).2 aN) Y), XO, XB, hR, hdf, hit⟩
                        ·
                          refine lv_aload_n hx hb dX3_read_196 rfl (lv_at hl 3 rfl) ?_
                          refine lv_iload hx hb dX3_read_197 (lv_at hl 8 rfl) ?_
                          refine wd_callVi (As := [.int (nI aN)]) (rest := []) (c2 := 0) (s2 := 0) ⟨hx, hb, hml, hown, hts⟩ (k_X3_breaks l D cI cT w_l69 H.size m A (fun t => oI (tx t)) (kI kp) (fun r => (rs r).1) (fun r => nI (rs r).2.length) fI kp.length cd pl XD XP Y XO XB (nI aN) hR) (cwV 1 hts gX3_read_X3_breaks rfl rfl rfl (by decide +kernel) ⟨Nat.le_of_ble_eq_true rfl, Nat.le_of_ble_eq_true rfl⟩) gK_ok hK hW (wd_recv (ci := 3) hK.1 hW rfl hR.1) hS hA rfl hl.1 rfl (Nat.le_of_ble_eq_true rfl) dX3_read_199 ⟨Nat.le_of_ble_eq_true rfl, Nat.le_of_ble_eq_true rfl⟩ rfl rfl (fun r_199 w_199 H locs hp_199 hW hz hS => ?_)
                          obtain ⟨q_r, hR⟩ := hp_199
                          subst r_199
                          refine wd_iret hx hb hr hlocks hW hS dX3_read_202 ?_
                          have e9 : s_read (cd, pl, df, tx, kp, rs) (nI tN) (nI uN) form = (0, 5, nI aN, df, tx, kp, rs) := by simp only [s_read, if_neg (not_or.mpr ⟨c_4, (not_or.mpr ⟨c_11, c_20⟩)⟩), s_w1, s_no, s_mk, s_brk, if_neg (not_not_intro c_32), show u_rd form (rs r_28).2 (rs r_28).2.length 0 [] = (nI aN, rl Y) from hI2.trans (u_rd_bad (by omega) (by rw [rl_len]; omega) c_193 (by omega)), if_pos (nI_ne_m1 (k := aN) (by omega)), hcl_t, hcl_u, htx_28]
                          show _ = (s_read (cd, pl, df, tx, kp, rs) (nI tN) (nI uN) form).1 ∧ InvR cI m (s_read (cd, pl, df, tx, kp, rs) (nI tN) (nI uN) form).2 _
                          rw [e9]
                          exact ⟨rfl, A, fI, XD, XP, Y, XO, XB, hR, hdf, hit⟩
                    ·
                      exact absurd c_127 c_99
                  ·
                    exact absurd c_110 c_86
                ·
                  refine lv_iconst (v := 1) hx hb dX3_read_102 (by decide) ?_
                  refine lv_goto (tgt := 107) hx hb dX3_read_103 (by decide) ?_
                  refine lv_istore (lv' := [(7, .int 1), (6, .int (lf (rs r_28).2 aN)), (0, .ref m), (1, .int (nI tN)), (2, .int (nI uN)), (3, .int form), (4, .int (nI ((rs r_28).2.length))), (5, .int (nI aN))]) hx hb dX3_read_107 hl (by decide) rfl (fun ls hl => ?_)
                  refine lv_iload_n hx hb dX3_read_109 rfl (lv_at hl 5 rfl) ?_
                  refine lv_if_ne (tgt := 125) hx hb dX3_read_110 (by decide) (fun c_110 => ?_) (fun c_110 => ?_)
                  ·
                    refine lv_iload_n hx hb dX3_read_125 rfl (lv_at hl 5 rfl) ?_
                    refine lv_iconst (v := 3) hx hb dX3_read_126 (by decide) ?_
                    refine lv_icmp_ne (tgt := 135) hx hb dX3_read_127 (by decide) (fun c_127 => ?_) (fun c_127 => ?_)
                    ·
                      exact absurd c_99 c_127
                    ·
                      refine lv_iload hx hb dX3_read_130 (lv_at hl 1 rfl) ?_
                      refine lv_goto (tgt := 188) hx hb dX3_read_132 (by decide) ?_
                      refine wd_topE (y := u_p form (rs r_28).2 aN) (by rw [u_p, if_neg c_86, if_pos c_99]) ?_
                      refine lv_istore (lv' := [(8, .int (u_p form (rs r_28).2 aN)), (7, .int 1), (6, .int (lf (rs r_28).2 aN)), (0, .ref m), (1, .int (nI tN)), (2, .int (nI uN)), (3, .int form), (4, .int (nI ((rs r_28).2.length))), (5, .int (nI aN))]) hx hb dX3_read_188 hl (by decide) rfl (fun ls hl => ?_)
                      refine lv_iload hx hb dX3_read_190 (lv_at hl 0 rfl) ?_
                      refine lv_iconst (v := (-1)) hx hb dX3_read_192 (by decide) ?_
                      refine lv_icmp_ne (tgt := 203) hx hb dX3_read_193 (by decide) (fun c_193 => ?_) (fun c_193 => ?_)
                      ·
                        have hul := u_units_le (u_p form (rs r_28).2 aN)
                        refine lv_aload_n hx hb dX3_read_203 rfl (lv_at hl 3 rfl) ?_
                        refine lv_iload hx hb dX3_read_204 (lv_at hl 0 rfl) ?_
                        refine wd_callVv (As := [.int (u_p form (rs r_28).2 aN)]) (rest := []) (c2 := 0) (s2 := 0) ⟨hx, hb, hml, hown, hts⟩ (k_X3_addUnits l D cI cT w_l69 H.size m A (fun t => oI (tx t)) (kI kp) (fun r => (rs r).1) (fun r => nI (rs r).2.length) fI kp.length cd pl XD XP Y XO XB (u_p form (rs r_28).2 aN) hR (by omega)) (cwV 1 hts gX3_read_X3_addUnits rfl rfl rfl (by decide +kernel) ⟨Nat.le_of_ble_eq_true rfl, Nat.le_of_ble_eq_true rfl⟩) gK_ok hK hW (wd_recv (ci := 3) hK.1 hW rfl hR.1) hS hA rfl hl.1 rfl (Nat.le_of_ble_eq_true rfl) dX3_read_206 ⟨Nat.le_of_ble_eq_true rfl, Nat.le_of_ble_eq_true rfl⟩ rfl rfl (fun w_206 H locs hp_206 hW hz hS => ?_)
                        have hR := hp_206
                        have hru : rl (r_uni 480 (u_p form (rs r_28).2 aN) Y) = rl Y ++ u_units (u_p form (rs r_28).2 aN) := rl_uni (by omega)
                        have hruc := r_uni_cnt (n := 480) (p := u_p form (rs r_28).2 aN) (Y := Y)
                        have hacc := congrArg List.length hru
                        rw [rl_len] at hacc
                        refine lv_aload_n hx hb dX3_read_209 rfl (lv_at hl 3 rfl) ?_
                        refine wd_get (ci := 3) (v := .int (nI ((r_uni 480 (u_p form (rs r_28).2 aN) Y).2))) (C := RX3) (T := TX3) (N := 18) hx hb hts (by decide +kernel) hown hK.1 hW hR.1 rfl 13 (by decide) (hts (.fieldLink RX3 71 "CharRowsModel" "unitMany" "I") (by decide +kernel)) (fun _ h9 => h9) rfl dX3_read_210 ?_
                        refine lv_bipush (v := 60) hx hb dX3_read_213 (by decide) ?_
                        refine lv_icmp_le (tgt := 225) hx hb dX3_read_215 (by decide) (fun c_215 => ?_) (fun c_215 => ?_)
                        ·
                          have c_215 : (r_uni 480 (u_p form (rs r_28).2 aN) Y).2 ≤ 60 := (nI_leI (by omega) (by omega)).mp (show (nI ((r_uni 480 (u_p form (rs r_28).2 aN) Y).2) ≤ nI 60) from c_215)
                          refine lv_iload hx hb dX3_read_225 (lv_at hl 8 rfl) ?_
                          refine lv_iload hx hb dX3_read_227 (lv_at hl 1 rfl) ?_
                          refine lv_iadd hx hb dX3_read_229 ?_
                          refine wd_topE (y := nI (aN + 1)) (show nI aN + nI _ = _ from nI_add _ _) ?_
                          refine lv_istore (lv' := [(5, .int (nI (aN + 1))), (8, .int (u_p form (rs r_28).2 aN)), (7, .int 1), (6, .int (lf (rs r_28).2 aN)), (0, .ref m), (1, .int (nI tN)), (2, .int (nI uN)), (3, .int form), (4, .int (nI ((rs r_28).2.length)))]) hx hb dX3_read_230 hl (by decide) rfl (fun ls hl => ?_)
                          refine lv_goto (tgt := 69) hx hb dX3_read_232 (by decide) ?_
                          exact ih_69 (aN + 1) (mF - 1) (r_uni 480 (u_p form (rs r_28).2 aN) Y) H locs ls ⟨(by omega), (hI2.trans ((u_rd_go (by omega) (by rw [rl_len]; omega) c_193 (by omega)).trans (by rw [show u_sz form (rs r_28).2 aN = 1 from (by rw [u_sz, if_neg c_86, if_pos c_99]), hru]))), (by omega), (by omega), ⟨_, hW, hR⟩, hS, (lv_sub hl [4, 5, 6, 7, 8, 0] rfl)⟩ (by omega)
                        ·
                          have c_215 : ¬ ((r_uni 480 (u_p form (rs r_28).2 aN) Y).2 ≤ 60) := fun q9 => absurd ((nI_leI (by omega) (by omega)).mpr q9) (show ¬ (nI ((r_uni 480 (u_p form (rs r_28).2 aN) Y).2) ≤ nI 60) from c_215)
                          refine lv_aload_n hx hb dX3_read_218 rfl (lv_at hl 3 rfl) ?_
                          refine lv_bipush (v := 6) hx hb dX3_read_219 (by decide) ?_
                          refine wd_callVi (As := [.int 6]) (rest := []) (c2 := 0) (s2 := 0) ⟨hx, hb, hml, hown, hts⟩ (k_X3_no l D cI cT w_206 H.size m A (fun t => oI (tx t)) (kI kp) (fun r => (rs r).1) (fun r => nI (rs r).2.length) fI kp.length cd pl XD XP (r_uni 480 (u_p form (rs r_28).2 aN) Y) XO XB 6 hR) (cwV 1 hts gX3_read_X3_no rfl rfl rfl (by decide +kernel) ⟨Nat.le_of_ble_eq_true rfl, Nat.le_of_ble_eq_true rfl⟩) gK_ok hK hW (wd_recv (ci := 3) hK.1 hW rfl hR.1) hS hA rfl hl.1 rfl (Nat.le_of_ble_eq_true rfl) dX3_read_221 ⟨Nat.le_of_ble_eq_true rfl, Nat.le_of_ble_eq_true rfl⟩ rfl rfl (fun r_221 w_221 H locs hp_221 hW hz hS => ?_)
                          obtain ⟨q_r, hR⟩ := hp_221
                          subst r_221
                          refine wd_iret hx hb hr hlocks hW hS dX3_read_224 ?_
                          have e9 : s_read (cd, pl, df, tx, kp, rs) (nI tN) (nI uN) form = (0, 6, pl, df, tx, kp, rs) := by simp only [s_read, if_neg (not_or.mpr ⟨c_4, (not_or.mpr ⟨c_11, c_20⟩)⟩), s_w1, s_no, s_mk, s_brk, if_neg (not_not_intro c_32), show u_rd form (rs r_28).2 (rs r_28).2.length 0 [] = (-1, rl (r_uni 480 (u_p form (rs r_28).2 aN) Y)) from by rw [hI2, u_rd_go (by omega) (by rw [rl_len]; omega) c_193 (by omega), ← hru, u_rd_out (Or.inr (by rw [rl_len]; omega))], ne_eq, not_true_eq_false, if_false, rl_len, if_pos (show 60 < (r_uni 480 (u_p form (rs r_28).2 aN) Y).2 by omega), hcl_t, hcl_u, htx_28]
                          show _ = (s_read (cd, pl, df, tx, kp, rs) (nI tN) (nI uN) form).1 ∧ InvR cI m (s_read (cd, pl, df, tx, kp, rs) (nI tN) (nI uN) form).2 _
                          rw [e9]
                          exact ⟨rfl, A, fI, XD, XP, (r_uni 480 (u_p form (rs r_28).2 aN) Y), XO, XB, hR, hdf, hit⟩
                      ·
                        refine lv_aload_n hx hb dX3_read_196 rfl (lv_at hl 3 rfl) ?_
                        refine lv_iload hx hb dX3_read_197 (lv_at hl 8 rfl) ?_
                        refine wd_callVi (As := [.int (nI aN)]) (rest := []) (c2 := 0) (s2 := 0) ⟨hx, hb, hml, hown, hts⟩ (k_X3_breaks l D cI cT w_l69 H.size m A (fun t => oI (tx t)) (kI kp) (fun r => (rs r).1) (fun r => nI (rs r).2.length) fI kp.length cd pl XD XP Y XO XB (nI aN) hR) (cwV 1 hts gX3_read_X3_breaks rfl rfl rfl (by decide +kernel) ⟨Nat.le_of_ble_eq_true rfl, Nat.le_of_ble_eq_true rfl⟩) gK_ok hK hW (wd_recv (ci := 3) hK.1 hW rfl hR.1) hS hA rfl hl.1 rfl (Nat.le_of_ble_eq_true rfl) dX3_read_199 ⟨Nat.le_of_ble_eq_true rfl, Nat.le_of_ble_eq_true rfl⟩ rfl rfl (fun r_199 w_199 H locs hp_199 hW hz hS => ?_)
                        obtain ⟨q_r, hR⟩ := hp_199
                        subst r_199
                        refine wd_iret hx hb hr hlocks hW hS dX3_read_202 ?_
                        have e9 : s_read (cd, pl, df, tx, kp, rs) (nI tN) (nI uN) form = (0, 5, nI aN, df, tx, kp, rs) := by simp only [s_read, if_neg (not_or.mpr ⟨c_4, (not_or.mpr ⟨c_11, c_20⟩)⟩), s_w1, s_no, s_mk, s_brk, if_neg (not_not_intro c_32), show u_rd form (rs r_28).2 (rs r_28).2.length 0 [] = (nI aN, rl Y) from hI2.trans (u_rd_bad (by omega) (by rw [rl_len]; omega) c_193 (by omega)), if_pos (nI_ne_m1 (k := aN) (by omega)), hcl_t, hcl_u, htx_28]
                        show _ = (s_read (cd, pl, df, tx, kp, rs) (nI tN) (nI uN) form).1 ∧ InvR cI m (s_read (cd, pl, df, tx, kp, rs) (nI tN) (nI uN) form).2 _
                        rw [e9]
                        exact ⟨rfl, A, fI, XD, XP, Y, XO, XB, hR, hdf, hit⟩
                  ·
                    exact absurd c_110 c_86
              ·
                refine lv_iload hx hb dX3_read_89 (lv_at hl 0 rfl) ?_
                refine wd_callSi (As := [.int (lf (rs r_28).2 aN)]) (rest := []) (c2 := 0) (s2 := 0) ⟨hx, hb, hml, hown, hts⟩ (k_X3_longOf l D cI cT w_l69 H.size (lf (rs r_28).2 aN) ) (va_cwS 1 hts gX3_read_X3_longOf rfl rfl rfl (by decide +kernel) ⟨Nat.le_of_ble_eq_true rfl, Nat.le_of_ble_eq_true rfl⟩) gK_ok hK hW hS hA rfl hl.1 rfl (Nat.le_of_ble_eq_true rfl) dX3_read_91 ⟨Nat.le_of_ble_eq_true rfl, Nat.le_of_ble_eq_true rfl⟩ rfl rfl (fun r_91 w_91 H locs hp_91 hW hz hS => ?_)
                obtain ⟨q_r, q_w⟩ := hp_91
                subst r_91
                subst w_91
                obtain ⟨nn, hnn4, hbc, hbz⟩ := j_bc_nat (lf (rs r_28).2 aN)
                refine wd_topE (y := nI nn) hbc ?_
                refine lv_goto (tgt := 107) hx hb dX3_read_94 (by decide) ?_
                refine lv_istore (lv' := [(7, .int (nI nn)), (6, .int (lf (rs r_28).2 aN)), (0, .ref m), (1, .int (nI tN)), (2, .int (nI uN)), (3, .int form), (4, .int (nI ((rs r_28).2.length))), (5, .int (nI aN))]) hx hb dX3_read_107 hl (by decide) rfl (fun ls hl => ?_)
                refine lv_iload_n hx hb dX3_read_109 rfl (lv_at hl 5 rfl) ?_
                refine lv_if_ne (tgt := 125) hx hb dX3_read_110 (by decide) (fun c_110 => ?_) (fun c_110 => ?_)
                ·
                  exact absurd c_86 c_110
                ·
                  refine lv_aload_n hx hb dX3_read_113 rfl (lv_at hl 2 rfl) ?_
                  refine lv_iload_n hx hb dX3_read_114 rfl (lv_at hl 4 rfl) ?_
                  refine lv_iload hx hb dX3_read_115 (lv_at hl 7 rfl) ?_
                  refine lv_iload hx hb dX3_read_117 (lv_at hl 0 rfl) ?_
                  refine wd_callVi (As := [.int (nI uN), .int (nI aN), .int (nI nn)]) (rest := []) (c2 := 0) (s2 := 0) ⟨hx, hb, hml, hown, hts⟩ (k_X3_pointFrom l D cI cT w_l69 H.size m A (kI kp) fI kp.length cd pl XD XP Y XO XB tx rs uN r_28 aN nn hR (by omega) htx_28 hr24_28 hlv hit (by omega) hbc hnn4) (cwV 3 hts gX3_read_X3_pointFrom rfl rfl rfl (by decide +kernel) ⟨Nat.le_of_ble_eq_true rfl, Nat.le_of_ble_eq_true rfl⟩) gK_ok hK hW (wd_recv (ci := 3) hK.1 hW rfl hR.1) hS hA rfl hl.1 rfl (Nat.le_of_ble_eq_true rfl) dX3_read_119 ⟨Nat.le_of_ble_eq_true rfl, Nat.le_of_ble_eq_true rfl⟩ rfl rfl (fun r_119 w_119 H locs hp_119 hW hz hS => ?_)
                  obtain ⟨q_r, q_w⟩ := hp_119
                  subst r_119
                  subst w_119
                  refine lv_goto (tgt := 188) hx hb dX3_read_122 (by decide) ?_
                  refine wd_topE (y := u_p form (rs r_28).2 aN) (by rw [u_p, if_pos c_86]) ?_
                  refine lv_istore (lv' := [(8, .int (u_p form (rs r_28).2 aN)), (7, .int (nI nn)), (6, .int (lf (rs r_28).2 aN)), (0, .ref m), (1, .int (nI tN)), (2, .int (nI uN)), (3, .int form), (4, .int (nI ((rs r_28).2.length))), (5, .int (nI aN))]) hx hb dX3_read_188 hl (by decide) rfl (fun ls hl => ?_)
                  refine lv_iload hx hb dX3_read_190 (lv_at hl 0 rfl) ?_
                  refine lv_iconst (v := (-1)) hx hb dX3_read_192 (by decide) ?_
                  refine lv_icmp_ne (tgt := 203) hx hb dX3_read_193 (by decide) (fun c_193 => ?_) (fun c_193 => ?_)
                  ·
                    have hul := u_units_le (u_p form (rs r_28).2 aN)
                    refine lv_aload_n hx hb dX3_read_203 rfl (lv_at hl 3 rfl) ?_
                    refine lv_iload hx hb dX3_read_204 (lv_at hl 0 rfl) ?_
                    refine wd_callVv (As := [.int (u_p form (rs r_28).2 aN)]) (rest := []) (c2 := 0) (s2 := 0) ⟨hx, hb, hml, hown, hts⟩ (k_X3_addUnits l D cI cT w_l69 H.size m A (fun t => oI (tx t)) (kI kp) (fun r => (rs r).1) (fun r => nI (rs r).2.length) fI kp.length cd pl XD XP Y XO XB (u_p form (rs r_28).2 aN) hR (by omega)) (cwV 1 hts gX3_read_X3_addUnits rfl rfl rfl (by decide +kernel) ⟨Nat.le_of_ble_eq_true rfl, Nat.le_of_ble_eq_true rfl⟩) gK_ok hK hW (wd_recv (ci := 3) hK.1 hW rfl hR.1) hS hA rfl hl.1 rfl (Nat.le_of_ble_eq_true rfl) dX3_read_206 ⟨Nat.le_of_ble_eq_true rfl, Nat.le_of_ble_eq_true rfl⟩ rfl rfl (fun w_206 H locs hp_206 hW hz hS => ?_)
                    have hR := hp_206
                    have hru : rl (r_uni 480 (u_p form (rs r_28).2 aN) Y) = rl Y ++ u_units (u_p form (rs r_28).2 aN) := rl_uni (by omega)
                    have hruc := r_uni_cnt (n := 480) (p := u_p form (rs r_28).2 aN) (Y := Y)
                    have hacc := congrArg List.length hru
                    rw [rl_len] at hacc
                    refine lv_aload_n hx hb dX3_read_209 rfl (lv_at hl 3 rfl) ?_
                    refine wd_get (ci := 3) (v := .int (nI ((r_uni 480 (u_p form (rs r_28).2 aN) Y).2))) (C := RX3) (T := TX3) (N := 18) hx hb hts (by decide +kernel) hown hK.1 hW hR.1 rfl 13 (by decide) (hts (.fieldLink RX3 71 "CharRowsModel" "unitMany" "I") (by decide +kernel)) (fun _ h9 => h9) rfl dX3_read_210 ?_
                    refine lv_bipush (v := 60) hx hb dX3_read_213 (by decide) ?_
                    refine lv_icmp_le (tgt := 225) hx hb dX3_read_215 (by decide) (fun c_215 => ?_) (fun c_215 => ?_)
                    ·
                      have c_215 : (r_uni 480 (u_p form (rs r_28).2 aN) Y).2 ≤ 60 := (nI_leI (by omega) (by omega)).mp (show (nI ((r_uni 480 (u_p form (rs r_28).2 aN) Y).2) ≤ nI 60) from c_215)
                      refine lv_iload hx hb dX3_read_225 (lv_at hl 8 rfl) ?_
                      refine lv_iload hx hb dX3_read_227 (lv_at hl 1 rfl) ?_
                      refine lv_iadd hx hb dX3_read_229 ?_
                      refine wd_topE (y := nI (aN + nn)) (show nI aN + nI _ = _ from nI_add _ _) ?_
                      refine lv_istore (lv' := [(5, .int (nI (aN + nn))), (8, .int (u_p form (rs r_28).2 aN)), (7, .int (nI nn)), (6, .int (lf (rs r_28).2 aN)), (0, .ref m), (1, .int (nI tN)), (2, .int (nI uN)), (3, .int form), (4, .int (nI ((rs r_28).2.length)))]) hx hb dX3_read_230 hl (by decide) rfl (fun ls hl => ?_)
                      refine lv_goto (tgt := 69) hx hb dX3_read_232 (by decide) ?_
                      have hn0 : nn ≠ 0 := fun q => j_pf_bc (g := lf (rs r_28).2) (len := (rs r_28).2.length) (k := aN) (by have h9 := c_193; rw [u_p, if_pos c_86] at h9; exact h9) (hbz.mpr q)
                      exact ih_69 (aN + nn) (mF - 1) (r_uni 480 (u_p form (rs r_28).2 aN) Y) H locs ls ⟨(by omega), (hI2.trans ((u_rd_go (by omega) (by rw [rl_len]; omega) c_193 (by omega)).trans (by rw [show u_sz form (rs r_28).2 aN = nn from (by rw [u_sz, if_pos c_86, hbc, nI_clamp (by omega)]), hru]))), (by omega), (by omega), ⟨_, hW, hR⟩, hS, (lv_sub hl [4, 5, 6, 7, 8, 0] rfl)⟩ (by omega)
                    ·
                      have c_215 : ¬ ((r_uni 480 (u_p form (rs r_28).2 aN) Y).2 ≤ 60) := fun q9 => absurd ((nI_leI (by omega) (by omega)).mpr q9) (show ¬ (nI ((r_uni 480 (u_p form (rs r_28).2 aN) Y).2) ≤ nI 60) from c_215)
                      refine lv_aload_n hx hb dX3_read_218 rfl (lv_at hl 3 rfl) ?_
                      refine lv_bipush (v := 6) hx hb dX3_read_219 (by decide) ?_
                      refine wd_callVi (As := [.int 6]) (rest := []) (c2 := 0) (s2 := 0) ⟨hx, hb, hml, hown, hts⟩ (k_X3_no l D cI cT w_206 H.size m A (fun t => oI (tx t)) (kI kp) (fun r => (rs r).1) (fun r => nI (rs r).2.length) fI kp.length cd pl XD XP (r_uni 480 (u_p form (rs r_28).2 aN) Y) XO XB 6 hR) (cwV 1 hts gX3_read_X3_no rfl rfl rfl (by decide +kernel) ⟨Nat.le_of_ble_eq_true rfl, Nat.le_of_ble_eq_true rfl⟩) gK_ok hK hW (wd_recv (ci := 3) hK.1 hW rfl hR.1) hS hA rfl hl.1 rfl (Nat.le_of_ble_eq_true rfl) dX3_read_221 ⟨Nat.le_of_ble_eq_true rfl, Nat.le_of_ble_eq_true rfl⟩ rfl rfl (fun r_221 w_221 H locs hp_221 hW hz hS => ?_)
                      obtain ⟨q_r, hR⟩ := hp_221
                      subst r_221
                      refine wd_iret hx hb hr hlocks hW hS dX3_read_224 ?_
                      have e9 : s_read (cd, pl, df, tx, kp, rs) (nI tN) (nI uN) form = (0, 6, pl, df, tx, kp, rs) := by simp only [s_read, if_neg (not_or.mpr ⟨c_4, (not_or.mpr ⟨c_11, c_20⟩)⟩), s_w1, s_no, s_mk, s_brk, if_neg (not_not_intro c_32), show u_rd form (rs r_28).2 (rs r_28).2.length 0 [] = (-1, rl (r_uni 480 (u_p form (rs r_28).2 aN) Y)) from by rw [hI2, u_rd_go (by omega) (by rw [rl_len]; omega) c_193 (by omega), ← hru, u_rd_out (Or.inr (by rw [rl_len]; omega))], ne_eq, not_true_eq_false, if_false, rl_len, if_pos (show 60 < (r_uni 480 (u_p form (rs r_28).2 aN) Y).2 by omega), hcl_t, hcl_u, htx_28]
                      show _ = (s_read (cd, pl, df, tx, kp, rs) (nI tN) (nI uN) form).1 ∧ InvR cI m (s_read (cd, pl, df, tx, kp, rs) (nI tN) (nI uN) form).2 _
                      rw [e9]
                      exact ⟨rfl, A, fI, XD, XP, (r_uni 480 (u_p form (rs r_28).2 aN) Y), XO, XB, hR, hdf, hit⟩
                  ·
                    refine lv_aload_n hx hb dX3_read_196 rfl (lv_at hl 3 rfl) ?_
                    refine lv_iload hx hb dX3_read_197 (lv_at hl 8 rfl) ?_
                    refine wd_callVi (As := [.int (nI aN)]) (rest := []) (c2 := 0) (s2 := 0) ⟨hx, hb, hml, hown, hts⟩ (k_X3_breaks l D cI cT w_l69 H.size m A (fun t => oI (tx t)) (kI kp) (fun r => (rs r).1) (fun r => nI (rs r).2.length) fI kp.length cd pl XD XP Y XO XB (nI aN) hR) (cwV 1 hts gX3_read_X3_breaks rfl rfl rfl (by decide +kernel) ⟨Nat.le_of_ble_eq_true rfl, Nat.le_of_ble_eq_true rfl⟩) gK_ok hK hW (wd_recv (ci := 3) hK.1 hW rfl hR.1) hS hA rfl hl.1 rfl (Nat.le_of_ble_eq_true rfl) dX3_read_199 ⟨Nat.le_of_ble_eq_true rfl, Nat.le_of_ble_eq_true rfl⟩ rfl rfl (fun r_199 w_199 H locs hp_199 hW hz hS => ?_)
                    obtain ⟨q_r, hR⟩ := hp_199
                    subst r_199
                    refine wd_iret hx hb hr hlocks hW hS dX3_read_202 ?_
                    have e9 : s_read (cd, pl, df, tx, kp, rs) (nI tN) (nI uN) form = (0, 5, nI aN, df, tx, kp, rs) := by simp only [s_read, if_neg (not_or.mpr ⟨c_4, (not_or.mpr ⟨c_11, c_20⟩)⟩), s_w1, s_no, s_mk, s_brk, if_neg (not_not_intro c_32), show u_rd form (rs r_28).2 (rs r_28).2.length 0 [] = (nI aN, rl Y) from hI2.trans (u_rd_bad (by omega) (by rw [rl_len]; omega) c_193 (by omega)), if_pos (nI_ne_m1 (k := aN) (by omega)), hcl_t, hcl_u, htx_28]
                    show _ = (s_read (cd, pl, df, tx, kp, rs) (nI tN) (nI uN) form).1 ∧ InvR cI m (s_read (cd, pl, df, tx, kp, rs) (nI tN) (nI uN) form).2 _
                    rw [e9]
                    exact ⟨rfl, A, fI, XD, XP, Y, XO, XB, hR, hdf, hit⟩
          ·
            refine lv_aload_n hx hb dX3_read_35 rfl (lv_at hl 0 rfl) ?_
            refine lv_aload_n hx hb dX3_read_36 rfl (lv_at hl 0 rfl) ?_
            refine lv_iload_n hx hb dX3_read_37 rfl (lv_at hl 2 rfl) ?_
            refine wd_callVi (As := [.int (nI uN)]) (rest := [.ref m]) (c2 := 0) (s2 := 0) ⟨hx, hb, hml, hown, hts⟩ (k_X3_sortOf l D cI cT w H.size m A (kI kp) (fun r => nI (rs r).2.length) fI kp.length cd pl XD XP XU XO XB tx rs uN hR (by omega) hlv) (cwV 1 hts gX3_read_X3_sortOf rfl rfl rfl (by decide +kernel) ⟨Nat.le_of_ble_eq_true rfl, Nat.le_of_ble_eq_true rfl⟩) gK_ok hK hW (wd_recv (ci := 3) hK.1 hW rfl hR.1) hS hA rfl hl.1 rfl (Nat.le_of_ble_eq_true rfl) dX3_read_38 ⟨Nat.le_of_ble_eq_true rfl, Nat.le_of_ble_eq_true rfl⟩ rfl rfl (fun r_38 w_38 H locs hp_38 hW hz hS => ?_)
            obtain ⟨q_r, q_w⟩ := hp_38
            subst r_38
            subst w_38
            refine wd_topE (y := (rs r_28).1) (by rw [htx_28]; rfl) ?_
            refine lv_iconst (v := (-1)) hx hb dX3_read_41 (by decide) ?_
            refine lv_icmp_ne (tgt := 49) hx hb dX3_read_42 (by decide) (fun c_42 => ?_) (fun c_42 => ?_)
            ·
              refine lv_iconst (v := 2) hx hb dX3_read_49 (by decide) ?_
              refine wd_callVi (As := [.int 2]) (rest := []) (c2 := 0) (s2 := 0) ⟨hx, hb, hml, hown, hts⟩ (k_X3_no l D cI cT w H.size m A (fun t => oI (tx t)) (kI kp) (fun r => (rs r).1) (fun r => nI (rs r).2.length) fI kp.length cd pl XD XP XU XO XB 2 hR) (cwV 1 hts gX3_read_X3_no rfl rfl rfl (by decide +kernel) ⟨Nat.le_of_ble_eq_true rfl, Nat.le_of_ble_eq_true rfl⟩) gK_ok hK hW (wd_recv (ci := 3) hK.1 hW rfl hR.1) hS hA rfl hl.1 rfl (Nat.le_of_ble_eq_true rfl) dX3_read_50 ⟨Nat.le_of_ble_eq_true rfl, Nat.le_of_ble_eq_true rfl⟩ rfl rfl (fun r_50 w_50 H locs hp_50 hW hz hS => ?_)
              obtain ⟨q_r, hR⟩ := hp_50
              subst r_50
              refine wd_iret hx hb hr hlocks hW hS dX3_read_53 ?_
              have e9 : s_read (cd, pl, df, tx, kp, rs) (nI tN) (nI uN) form = (0, 2, pl, df, tx, kp, rs) := by simp only [s_read, if_neg (not_or.mpr ⟨c_4, (not_or.mpr ⟨c_11, c_20⟩)⟩), s_w1, s_no, s_mk, s_brk, if_pos c_32, hcl_t, hcl_u, htx_28]
              show _ = (s_read (cd, pl, df, tx, kp, rs) (nI tN) (nI uN) form).1 ∧ InvR cI m (s_read (cd, pl, df, tx, kp, rs) (nI tN) (nI uN) form).2 _
              rw [e9]
              exact ⟨rfl, A, fI, XD, XP, XU, XO, XB, hR, hdf, hit⟩
            ·
              exact absurd c_42 (hok _ _ htx_28).nm1
      ·
        have c_20 := w_no (w_form form) (j_b0 c_20)
        refine lv_ldc (v := (-2000000001)) hx hb hown (hts (.constant RX3 107 (-2000000001)) (by decide +kernel)) dX3_read_23 ?_
        refine wd_iret hx hb hr hlocks hW hS dX3_read_25 ?_
        have e9 : s_read (cd, pl, df, tx, kp, rs) (nI tN) (nI uN) form = ((-2000000001), cd, pl, df, tx, kp, rs) := by simp only [s_read, if_pos (Or.inr (Or.inr c_20)), s_w1, s_no, s_mk, s_brk, hcl_t, hcl_u]
        show _ = (s_read (cd, pl, df, tx, kp, rs) (nI tN) (nI uN) form).1 ∧ InvR cI m (s_read (cd, pl, df, tx, kp, rs) (nI tN) (nI uN) form).2 _
        rw [e9]
        exact ⟨rfl, A, fI, XD, XP, XU, XO, XB, hR, hdf, hit⟩
set_option maxHeartbeats 4000000 in
set_option maxRecDepth 100000 in
theorem k_X3_find (l : Launch) (D : va_G) (cI cT : ClassId) (w : Wd) (sz : Nat) (m : Nat) (cd : Int32) (pl : Int32) (df : List Int32) (tx : Nat → Option Nat) (kp : List Nat) (rs : Rws) (a : Int32) (b : Int32) (i : Int32) (hwf : WF (cd, pl, df, tx, kp, rs)) (hI : InvR cI m (cd, pl, df, tx, kp, rs) w) : wd_Mi l D vwCl (gK D cI cT) yX3_find wsX3_find (wd_rm 3 0 0) [.ref m, .int a, .int b, .int i] w sz (fun r w' => r = (s_find (cd, pl, df, tx, kp, rs) a b i).1 ∧ InvR cI m (s_find (cd, pl, df, tx, kp, rs) a b i).2 w') := by
  refine wd_met (cc := cX3_find) (maxL := 9) (ret := (some .int)) (by decide) rfl (Nat.le_of_ble_eq_true rfl) ?_
  intro pg ev sg mi bl mt cde ls C0 hsz hK hW hl
  obtain ⟨hx, hb, hr, hml, hown, hts, hlocks, hnm⟩ := C0
  subst hsz
  have hown : sg.vm.findClass RX3 = some mi.cls := hown
  have hS : va_S (wd_A w sg.heap.size) sg.heap sg.heap [] := va_S.rf
  have hA : ∀ q, sg.heap.size ≤ q → wd_A w sg.heap.size q := fun q h => Or.inr h
  have hl : lv_has ls 9 [(0, .ref m), (1, .int a), (2, .int b), (3, .int i)] := hl
  obtain ⟨A, fI, XD, XP, XU, XO, XB, hR, hdf, hit⟩ := hI
  dsimp only at hR hdf hit
  have h10 : ∀ t, 10 ≤ t → tx t = none := hwf.2.1
  have hkp : kp.length ≤ 12 := hwf.2.2.1
  have hlv : ∀ t r, tx t = some r → r < 24 := fun t r h => (hwf.2.2.2.1 r (Or.inl ⟨t, h⟩)).1
  have hok : ∀ t r, tx t = some r → rOK (rs r) := fun t r h => (hwf.2.2.2.1 r (Or.inl ⟨t, h⟩)).2
  have hk24 : ∀ r ∈ kp, r < 24 := fun r h => (hwf.2.2.2.1 r (Or.inr h)).1
  have hdl : df.length = XD.2 := by rw [← hdf, rl_len]
  have hd60 : df.length ≤ 60 := hwf.1.1
  refine lv_iload_n hx hb dX3_find_0 rfl (lv_at hl 1 rfl) ?_
  refine wd_callSi (As := [.int a]) (rest := []) (c2 := 0) (s2 := 0) ⟨hx, hb, hml, hown, hts⟩ (k_X3_isText l D cI cT w sg.heap.size a ) (va_cwS 1 hts gX3_find_X3_isText rfl rfl rfl (by decide +kernel) ⟨Nat.le_of_ble_eq_true rfl, Nat.le_of_ble_eq_true rfl⟩) gK_ok hK hW hS hA rfl hl.1 rfl (Nat.le_of_ble_eq_true rfl) dX3_find_1 ⟨Nat.le_of_ble_eq_true rfl, Nat.le_of_ble_eq_true rfl⟩ rfl rfl (fun r_1 w_1 H locs hp_1 hW hz hS => ?_)
  obtain ⟨q_r, q_w⟩ := hp_1
  subst r_1
  subst w_1
  refine lv_if_eq (tgt := 14) hx hb dX3_find_4 (by decide) (fun c_4 => ?_) (fun c_4 => ?_)
  ·
    have c_4 := nt_of (j_b0 c_4)
    refine lv_ldc (v := (-2000000001)) hx hb hown (hts (.constant RX3 107 (-2000000001)) (by decide +kernel)) dX3_find_14 ?_
    refine wd_iret hx hb hr hlocks hW hS dX3_find_16 ?_
    have e9 : s_find (cd, pl, df, tx, kp, rs) a b i = ((-2000000001), cd, pl, df, tx, kp, rs) := by simp only [s_find, if_pos (Or.inl c_4), s_w2]
    show _ = (s_find (cd, pl, df, tx, kp, rs) a b i).1 ∧ InvR cI m (s_find (cd, pl, df, tx, kp, rs) a b i).2 _
    rw [e9]
    exact ⟨rfl, A, fI, XD, XP, XU, XO, XB, hR, hdf, hit⟩
  ·
    have c_4 := j_bn c_4
    obtain ⟨aN, haN, haE⟩ := nt_spec c_4
    subst haE
    have hcl_a : (nI aN).toNatClampNeg = aN := nI_clamp (by omega)
    refine lv_iload_n hx hb dX3_find_7 rfl (lv_at hl 2 rfl) ?_
    refine wd_callSi (As := [.int b]) (rest := []) (c2 := 0) (s2 := 0) ⟨hx, hb, hml, hown, hts⟩ (k_X3_isText l D cI cT w H.size b ) (va_cwS 1 hts gX3_find_X3_isText rfl rfl rfl (by decide +kernel) ⟨Nat.le_of_ble_eq_true rfl, Nat.le_of_ble_eq_true rfl⟩) gK_ok hK hW hS hA rfl hl.1 rfl (Nat.le_of_ble_eq_true rfl) dX3_find_8 ⟨Nat.le_of_ble_eq_true rfl, Nat.le_of_ble_eq_true rfl⟩ rfl rfl (fun r_8 w_8 H locs hp_8 hW hz hS => ?_)
    obtain ⟨q_r, q_w⟩ := hp_8
    subst r_8
    subst w_8
    refine lv_if_ne (tgt := 17) hx hb dX3_find_11 (by decide) (fun c_11 => ?_) (fun c_11 => ?_)
    ·
      have c_11 := j_bn c_11
      obtain ⟨bN, hbN, hbE⟩ := nt_spec c_11
      subst hbE
      have hcl_b : (nI bN).toNatClampNeg = bN := nI_clamp (by omega)
      refine lv_aload_n hx hb dX3_find_17 rfl (lv_at hl 0 rfl) ?_
      refine lv_iload_n hx hb dX3_find_18 rfl (lv_at hl 1 rfl) ?_
      refine wd_callVi (As := [.int (nI aN)]) (rest := []) (c2 := 0) (s2 := 0) ⟨hx, hb, hml, hown, hts⟩ (k_X3_sortOf l D cI cT w H.size m A (kI kp) (fun r => nI (rs r).2.length) fI kp.length cd pl XD XP XU XO XB tx rs aN hR (by omega) hlv) (cwV 1 hts gX3_find_X3_sortOf rfl rfl rfl (by decide +kernel) ⟨Nat.le_of_ble_eq_true rfl, Nat.le_of_ble_eq_true rfl⟩) gK_ok hK hW (wd_recv (ci := 3) hK.1 hW rfl hR.1) hS hA rfl hl.1 rfl (Nat.le_of_ble_eq_true rfl) dX3_find_19 ⟨Nat.le_of_ble_eq_true rfl, Nat.le_of_ble_eq_true rfl⟩ rfl rfl (fun r_19 w_19 H locs hp_19 hW hz hS => ?_)
      obtain ⟨q_r, q_w⟩ := hp_19
      subst r_19
      subst w_19
      cases htx_19 : tx aN with
      | none =>
        refine wd_topE (y := -1) rfl ?_
        refine lv_iconst (v := (-1)) hx hb dX3_find_22 (by decide) ?_
        refine lv_icmp_eq (tgt := 35) hx hb dX3_find_23 (by decide) (fun c_23 => ?_) (fun c_23 => ?_)
        ·
          refine lv_iconst (v := 1) hx hb dX3_find_35 (by decide) ?_
          refine lv_goto (tgt := 57) hx hb dX3_find_36 (by decide) ?_
          refine lv_istore (lv' := [(4, .int 1), (0, .ref m), (1, .int (nI aN)), (2, .int (nI bN)), (3, .int i)]) hx hb dX3_find_57 hl (by decide) rfl (fun ls hl => ?_)
          refine lv_aload_n hx hb dX3_find_59 rfl (lv_at hl 1 rfl) ?_
          refine lv_iload hx hb dX3_find_60 (lv_at hl 0 rfl) ?_
          refine wd_put (ci := 3) (v := .int 1) (ty := .int) (C := RX3) (T := TX3) (N := 18) hx hb hts (by decide +kernel) tyX3 tyX3_ok nmX3 hown hK.1 hW hS hR.1 rfl 8 (by decide) (hts (.fieldLink RX3 53 "CharRowsModel" "code" "I") (by decide +kernel)) (fun _ h9 => h9) rfl (by decide +kernel) rfl rfl (Nat.le_of_ble_eq_true rfl) dX3_find_62 (fun H locs hW hS => ?_)
          obtain ⟨w_v1, hW, hR⟩ : ∃ w', wd_P D vwCl (wd_A w sg.heap.size) w' H ∧ rW cI m A (fun t => oI (tx t)) (kI kp) (fun r => (rs r).1) (fun r => nI (rs r).2.length) fI kp.length 1 pl XD XP XU XO XB w' := ⟨_, hW, hR.scd 1⟩
          refine lv_iload hx hb dX3_find_65 (lv_at hl 0 rfl) ?_
          refine lv_if_eq (tgt := 72) hx hb dX3_find_67 (by decide) (fun c_67 => ?_) (fun c_67 => ?_)
          ·
            exact absurd c_67 (by decide)
          ·
            refine lv_iconst (v := (-1)) hx hb dX3_find_70 (by decide) ?_
            refine wd_iret hx hb hr hlocks hW hS dX3_find_71 ?_
            have e9 : s_find (cd, pl, df, tx, kp, rs) (nI aN) (nI bN) i = ((-1), 1, pl, df, tx, kp, rs) := by simp only [s_find, if_neg (not_or.mpr ⟨c_4, c_11⟩), s_w2, hcl_a, hcl_b, htx_19]
            show _ = (s_find (cd, pl, df, tx, kp, rs) (nI aN) (nI bN) i).1 ∧ InvR cI m (s_find (cd, pl, df, tx, kp, rs) (nI aN) (nI bN) i).2 _
            rw [e9]
            exact ⟨rfl, A, fI, XD, XP, XU, XO, XB, hR, hdf, hit⟩
        ·
          exact absurd rfl c_23
      | some r_19 =>
        refine wd_topE (y := (rs r_19).1) rfl ?_
        have hr24_19 := hlv _ _ htx_19
        refine lv_iconst (v := (-1)) hx hb dX3_find_22 (by decide) ?_
        refine lv_icmp_eq (tgt := 35) hx hb dX3_find_23 (by decide) (fun c_23 => ?_) (fun c_23 => ?_)
        ·
          exact absurd c_23 (hok _ _ htx_19).nm1
        ·
          refine lv_aload_n hx hb dX3_find_26 rfl (lv_at hl 0 rfl) ?_
          refine lv_iload_n hx hb dX3_find_27 rfl (lv_at hl 2 rfl) ?_
          refine wd_callVi (As := [.int (nI bN)]) (rest := []) (c2 := 0) (s2 := 0) ⟨hx, hb, hml, hown, hts⟩ (k_X3_sortOf l D cI cT w H.size m A (kI kp) (fun r => nI (rs r).2.length) fI kp.length cd pl XD XP XU XO XB tx rs bN hR (by omega) hlv) (cwV 1 hts gX3_find_X3_sortOf rfl rfl rfl (by decide +kernel) ⟨Nat.le_of_ble_eq_true rfl, Nat.le_of_ble_eq_true rfl⟩) gK_ok hK hW (wd_recv (ci := 3) hK.1 hW rfl hR.1) hS hA rfl hl.1 rfl (Nat.le_of_ble_eq_true rfl) dX3_find_28 ⟨Nat.le_of_ble_eq_true rfl, Nat.le_of_ble_eq_true rfl⟩ rfl rfl (fun r_28 w_28 H locs hp_28 hW hz hS => ?_)
          obtain ⟨q_r, q_w⟩ := hp_28
          subst r_28
          subst w_28
          cases htx_28 : tx bN with
          | none =>
            refine wd_topE (y := -1) rfl ?_
            refine lv_iconst (v := (-1)) hx hb dX3_find_31 (by decide) ?_
            refine lv_icmp_ne (tgt := 39) hx hb dX3_find_32 (by decide) (fun c_32 => ?_) (fun c_32 => ?_)
            ·
              exact absurd rfl c_32
            ·
              refine lv_iconst (v := 1) hx hb dX3_find_35 (by decide) ?_
              refine lv_goto (tgt := 57) hx hb dX3_find_36 (by decide) ?_
              refine lv_istore (lv' := [(4, .int 1), (0, .ref m), (1, .int (nI aN)), (2, .int (nI bN)), (3, .int i)]) hx hb dX3_find_57 hl (by decide) rfl (fun ls hl => ?_)
              refine lv_aload_n hx hb dX3_find_59 rfl (lv_at hl 1 rfl) ?_
              refine lv_iload hx hb dX3_find_60 (lv_at hl 0 rfl) ?_
              refine wd_put (ci := 3) (v := .int 1) (ty := .int) (C := RX3) (T := TX3) (N := 18) hx hb hts (by decide +kernel) tyX3 tyX3_ok nmX3 hown hK.1 hW hS hR.1 rfl 8 (by decide) (hts (.fieldLink RX3 53 "CharRowsModel" "code" "I") (by decide +kernel)) (fun _ h9 => h9) rfl (by decide +kernel) rfl rfl (Nat.le_of_ble_eq_true rfl) dX3_find_62 (fun H locs hW hS => ?_)
              obtain ⟨w_v2, hW, hR⟩ : ∃ w', wd_P D vwCl (wd_A w sg.heap.size) w' H ∧ rW cI m A (fun t => oI (tx t)) (kI kp) (fun r => (rs r).1) (fun r => nI (rs r).2.length) fI kp.length 1 pl XD XP XU XO XB w' := ⟨_, hW, hR.scd 1⟩
              refine lv_iload hx hb dX3_find_65 (lv_at hl 0 rfl) ?_
              refine lv_if_eq (tgt := 72) hx hb dX3_find_67 (by decide) (fun c_67 => ?_) (fun c_67 => ?_)
              ·
                exact absurd c_67 (by decide)
              ·
                refine lv_iconst (v := (-1)) hx hb dX3_find_70 (by decide) ?_
                refine wd_iret hx hb hr hlocks hW hS dX3_find_71 ?_
                have e9 : s_find (cd, pl, df, tx, kp, rs) (nI aN) (nI bN) i = ((-1), 1, pl, df, tx, kp, rs) := by simp only [s_find, if_neg (not_or.mpr ⟨c_4, c_11⟩), s_w2, hcl_a, hcl_b, htx_19, htx_28]
                show _ = (s_find (cd, pl, df, tx, kp, rs) (nI aN) (nI bN) i).1 ∧ InvR cI m (s_find (cd, pl, df, tx, kp, rs) (nI aN) (nI bN) i).2 _
                rw [e9]
                exact ⟨rfl, A, fI, XD, XP, XU, XO, XB, hR, hdf, hit⟩
          | some r_28 =>
            refine wd_topE (y := (rs r_28).1) rfl ?_
            have hr24_28 := hlv _ _ htx_28
            refine lv_iconst (v := (-1)) hx hb dX3_find_31 (by decide) ?_
            refine lv_icmp_ne (tgt := 39) hx hb dX3_find_32 (by decide) (fun c_32 => ?_) (fun c_32 => ?_)
            ·
              refine lv_aload_n hx hb dX3_find_39 rfl (lv_at hl 0 rfl) ?_
              refine lv_iload_n hx hb dX3_find_40 rfl (lv_at hl 1 rfl) ?_
              refine wd_callVi (As := [.int (nI aN)]) (rest := []) (c2 := 0) (s2 := 0) ⟨hx, hb, hml, hown, hts⟩ (k_X3_sortOf l D cI cT w H.size m A (kI kp) (fun r => nI (rs r).2.length) fI kp.length cd pl XD XP XU XO XB tx rs aN hR (by omega) hlv) (cwV 1 hts gX3_find_X3_sortOf rfl rfl rfl (by decide +kernel) ⟨Nat.le_of_ble_eq_true rfl, Nat.le_of_ble_eq_true rfl⟩) gK_ok hK hW (wd_recv (ci := 3) hK.1 hW rfl hR.1) hS hA rfl hl.1 rfl (Nat.le_of_ble_eq_true rfl) dX3_find_41 ⟨Nat.le_of_ble_eq_true rfl, Nat.le_of_ble_eq_true rfl⟩ rfl rfl (fun r_41 w_41 H locs hp_41 hW hz hS => ?_)
              obtain ⟨q_r, q_w⟩ := hp_41
              subst r_41
              subst w_41
              refine wd_topE (y := (rs r_19).1) (by rw [htx_19]; rfl) ?_
              refine lv_aload_n hx hb dX3_find_44 rfl (lv_at hl 0 rfl) ?_
              refine lv_iload_n hx hb dX3_find_45 rfl (lv_at hl 2 rfl) ?_
              refine wd_callVi (As := [.int (nI bN)]) (rest := [.int ((rs r_19).1)]) (c2 := 0) (s2 := 0) ⟨hx, hb, hml, hown, hts⟩ (k_X3_sortOf l D cI cT w H.size m A (kI kp) (fun r => nI (rs r).2.length) fI kp.length cd pl XD XP XU XO XB tx rs bN hR (by omega) hlv) (cwV 1 hts gX3_find_X3_sortOf rfl rfl rfl (by decide +kernel) ⟨Nat.le_of_ble_eq_true rfl, Nat.le_of_ble_eq_true rfl⟩) gK_ok hK hW (wd_recv (ci := 3) hK.1 hW rfl hR.1) hS hA rfl hl.1 rfl (Nat.le_of_ble_eq_true rfl) dX3_find_46 ⟨Nat.le_of_ble_eq_true rfl, Nat.le_of_ble_eq_true rfl⟩ rfl rfl (fun r_46 w_46 H locs hp_46 hW hz hS => ?_)
              obtain ⟨q_r, q_w⟩ := hp_46
              subst r_46
              subst w_46
              refine wd_topE (y := (rs r_28).1) (by rw [htx_28]; rfl) ?_
              refine lv_icmp_eq (tgt := 56) hx hb dX3_find_49 (by decide) (fun c_49 => ?_) (fun c_49 => ?_)
              ·
                refine lv_iconst (v := 0) hx hb dX3_find_56 (by decide) ?_
                refine lv_istore (lv' := [(4, .int 0), (0, .ref m), (1, .int (nI aN)), (2, .int (nI bN)), (3, .int i)]) hx hb dX3_find_57 hl (by decide) rfl (fun ls hl => ?_)
                refine lv_aload_n hx hb dX3_find_59 rfl (lv_at hl 1 rfl) ?_
                refine lv_iload hx hb dX3_find_60 (lv_at hl 0 rfl) ?_
                refine wd_put (ci := 3) (v := .int 0) (ty := .int) (C := RX3) (T := TX3) (N := 18) hx hb hts (by decide +kernel) tyX3 tyX3_ok nmX3 hown hK.1 hW hS hR.1 rfl 8 (by decide) (hts (.fieldLink RX3 53 "CharRowsModel" "code" "I") (by decide +kernel)) (fun _ h9 => h9) rfl (by decide +kernel) rfl rfl (Nat.le_of_ble_eq_true rfl) dX3_find_62 (fun H locs hW hS => ?_)
                obtain ⟨w_v3, hW, hR⟩ : ∃ w', wd_P D vwCl (wd_A w sg.heap.size) w' H ∧ rW cI m A (fun t => oI (tx t)) (kI kp) (fun r => (rs r).1) (fun r => nI (rs r).2.length) fI kp.length 0 pl XD XP XU XO XB w' := ⟨_, hW, hR.scd 0⟩
                refine lv_iload hx hb dX3_find_65 (lv_at hl 0 rfl) ?_
                refine lv_if_eq (tgt := 72) hx hb dX3_find_67 (by decide) (fun c_67 => ?_) (fun c_67 => ?_)
                ·
                  have hla := (hok _ _ htx_19).len
                  have hlb := (hok _ _ htx_28).len
                  refine lv_aload_n hx hb dX3_find_72 rfl (lv_at hl 1 rfl) ?_
                  refine lv_iload_n hx hb dX3_find_73 rfl (lv_at hl 3 rfl) ?_
                  refine wd_callVi (As := [.int (nI bN)]) (rest := []) (c2 := 0) (s2 := 0) ⟨hx, hb, hml, hown, hts⟩ (k_X3_manyOf l D cI cT w_v3 H.size m A (kI kp) (fun r => (rs r).1) fI kp.length 0 pl XD XP XU XO XB tx rs bN r_28 hR (by omega) htx_28 hr24_28) (cwV 1 hts gX3_find_X3_manyOf rfl rfl rfl (by decide +kernel) ⟨Nat.le_of_ble_eq_true rfl, Nat.le_of_ble_eq_true rfl⟩) gK_ok hK hW (wd_recv (ci := 3) hK.1 hW rfl hR.1) hS hA rfl hl.1 rfl (Nat.le_of_ble_eq_true rfl) dX3_find_74 ⟨Nat.le_of_ble_eq_true rfl, Nat.le_of_ble_eq_true rfl⟩ rfl rfl (fun r_74 w_74 H locs hp_74 hW hz hS => ?_)
                  obtain ⟨q_r, q_w⟩ := hp_74
                  subst r_74
                  subst w_74
                  refine lv_istore (lv' := [(5, .int (nI ((rs r_28).2.length))), (4, .int 0), (0, .ref m), (1, .int (nI aN)), (2, .int (nI bN)), (3, .int i)]) hx hb dX3_find_77 hl (by decide) rfl (fun ls hl => ?_)
                  refine lv_iload_n hx hb dX3_find_79 rfl (lv_at hl 5 rfl) ?_
                  refine lv_if_ge (tgt := 87) hx hb dX3_find_80 (by decide) (fun c_80 => ?_) (fun c_80 => ?_)
                  ·
                    simp only [i_le, Decidable.not_not] at c_80
                    obtain ⟨iN, hiN, hiE⟩ := nI_of c_80
                    subst hiE
                    have hcl_i : (nI iN).toNatClampNeg = iN := nI_clamp (by omega)
                    refine lv_iload_n hx hb dX3_find_87 rfl (lv_at hl 5 rfl) ?_
                    refine lv_istore (lv' := [(6, .int (nI iN)), (5, .int (nI ((rs r_28).2.length))), (4, .int 0), (0, .ref m), (1, .int (nI aN)), (2, .int (nI bN)), (3, .int (nI iN))]) hx hb dX3_find_88 hl (by decide) rfl (fun ls hl => ?_)
                    refine wd_loop1 (fun (kN : Nat) (H : Heap) (locs : List Loc) (ls : Array Slot) => (kN < 2 ^ 31) ∧ (j_srch (u_st (rs r_19).1 (rs r_19).2 (rs r_28).2) ((rs r_19).2.length + 1 - (rs r_28).2.length - iN) iN = j_srch (u_st (rs r_19).1 (rs r_19).2 (rs r_28).2) ((rs r_19).2.length + 1 - (rs r_28).2.length - kN) kN) ∧ (∃ w', wd_P D vwCl (wd_A w sg.heap.size) w' H ∧ rW cI m A (fun t => oI (tx t)) (kI kp) (fun r => (rs r).1) (fun r => nI (rs r).2.length) fI kp.length 0 pl XD XP XU XO XB w') ∧ va_S (wd_A w sg.heap.size) sg.heap H locs ∧ lv_has ls 9 [(0, .ref m), (1, .int (nI aN)), (2, .int (nI bN)), (3, .int (nI iN)), (5, .int (nI ((rs r_28).2.length))), (6, .int (nI kN))]) (fun (kN : Nat) => (rs r_19).2.length + 1 - (rs r_28).2.length - kN) iN ⟨(by omega), rfl, ⟨_, hW, hR⟩, hS, (lv_sub hl [3, 4, 5, 6, 1, 0] rfl)⟩ (fun kN H locs ls hI ih_90 => ?_)
                    obtain ⟨hkN, hsr, ⟨w_l90, hW, hR⟩, hS, hl⟩ := hI
                    refine lv_iload hx hb dX3_find_90 (lv_at hl 5 rfl) ?_
                    refine lv_aload_n hx hb dX3_find_92 rfl (lv_at hl 0 rfl) ?_
                    refine lv_iload_n hx hb dX3_find_93 rfl (lv_at hl 1 rfl) ?_
                    refine wd_callVi (As := [.int (nI aN)]) (rest := [.int (nI kN)]) (c2 := 0) (s2 := 0) ⟨hx, hb, hml, hown, hts⟩ (k_X3_manyOf l D cI cT w_l90 H.size m A (kI kp) (fun r => (rs r).1) fI kp.length 0 pl XD XP XU XO XB tx rs aN r_19 hR (by omega) htx_19 hr24_19) (cwV 1 hts gX3_find_X3_manyOf rfl rfl rfl (by decide +kernel) ⟨Nat.le_of_ble_eq_true rfl, Nat.le_of_ble_eq_true rfl⟩) gK_ok hK hW (wd_recv (ci := 3) hK.1 hW rfl hR.1) hS hA rfl hl.1 rfl (Nat.le_of_ble_eq_true rfl) dX3_find_94 ⟨Nat.le_of_ble_eq_true rfl, Nat.le_of_ble_eq_true rfl⟩ rfl rfl (fun r_94 w_94 H locs hp_94 hW hz hS => ?_)
                    obtain ⟨q_r, q_w⟩ := hp_94
                    subst r_94
                    subst w_94
                    refine lv_iload hx hb dX3_find_97 (lv_at hl 4 rfl) ?_
                    refine lv_isub hx hb dX3_find_99 ?_
                    refine lv_icmp_gt (tgt := 195) hx hb dX3_find_100 (by decide) (fun c_100 => ?_) (fun c_100 => ?_)
                    ·
                      have c_100 := (last_iff (by omega) (by omega) (by omega)).mp c_100
                      refine lv_iconst (v := (-1)) hx hb dX3_find_195 (by decide) ?_
                      refine wd_iret hx hb hr hlocks hW hS dX3_find_196 ?_
                      have e9 : s_find (cd, pl, df, tx, kp, rs) (nI aN) (nI bN) (nI iN) = ((-1), 0, pl, df, tx, kp, rs) := by simp only [s_find, if_neg (not_or.mpr ⟨c_4, c_11⟩), s_w2, if_neg (not_not_intro c_49), hcl_a, hcl_b, hcl_i, htx_19, htx_28]; rw [hsr, j_srch_0 (by omega)]; first | done | rfl
                      show _ = (s_find (cd, pl, df, tx, kp, rs) (nI aN) (nI bN) (nI iN)).1 ∧ InvR cI m (s_find (cd, pl, df, tx, kp, rs) (nI aN) (nI bN) (nI iN)).2 _
                      rw [e9]
                      exact ⟨rfl, A, fI, XD, XP, XU, XO, XB, hR, hdf, hit⟩
                    ·
                      have c_100 : ¬ ((rs r_19).2.length + 1 - (rs r_28).2.length ≤ kN) := fun z => c_100 ((last_iff (by omega) (by omega) (by omega)).mpr z)
                      refine lv_aload_n hx hb dX3_find_103 rfl (lv_at hl 0 rfl) ?_
                      refine lv_iload_n hx hb dX3_find_104 rfl (lv_at hl 1 rfl) ?_
                      refine lv_iload hx hb dX3_find_105 (lv_at hl 5 rfl) ?_
                      refine wd_callVi (As := [.int (nI aN), .int (nI kN)]) (rest := []) (c2 := 0) (s2 := 0) ⟨hx, hb, hml, hown, hts⟩ (k_X3_parts l D cI cT w_l90 H.size m A (kI kp) fI kp.length 0 pl XD XP XU XO XB tx rs aN r_19 kN hR (by omega) htx_19 hr24_19 hlv hit (by omega)) (cwV 2 hts gX3_find_X3_parts rfl rfl rfl (by decide +kernel) ⟨Nat.le_of_ble_eq_true rfl, Nat.le_of_ble_eq_true rfl⟩) gK_ok hK hW (wd_recv (ci := 3) hK.1 hW rfl hR.1) hS hA rfl hl.1 rfl (Nat.le_of_ble_eq_true rfl) dX3_find_107 ⟨Nat.le_of_ble_eq_true rfl, Nat.le_of_ble_eq_true rfl⟩ rfl rfl (fun r_107 w_107 H locs hp_107 hW hz hS => ?_)
                      obtain ⟨q_r, q_w⟩ := hp_107
                      subst r_107
                      subst w_107
                      refine lv_if_ne (tgt := 130) hx hb dX3_find_110 (by decide) (fun c_110 => ?_) (fun c_110 => ?_)
                      ·
                        have c_110 := j_bn c_110
                        refine lv_iconst (v := 0) hx hb dX3_find_130 (by decide) ?_
                        refine wd_topE (y := j_b (u_stq (rs r_19).1 (rs r_19).2 (rs r_28).2 kN 0)) (j_bf (fun q => q.1 c_110)) ?_
                        refine lv_istore (lv' := [(7, .int (j_b (u_stq (rs r_19).1 (rs r_19).2 (rs r_28).2 kN 0))), (0, .ref m), (1, .int (nI aN)), (2, .int (nI bN)), (3, .int (nI iN)), (5, .int (nI ((rs r_28).2.length))), (6, .int (nI kN))]) hx hb dX3_find_131 hl (by decide) rfl (fun ls hl => ?_)
                        refine lv_iconst (v := 0) hx hb dX3_find_133 (by decide) ?_
                        refine lv_istore (lv' := [(8, .int 0), (7, .int (j_b (u_stq (rs r_19).1 (rs r_19).2 (rs r_28).2 kN 0))), (0, .ref m), (1, .int (nI aN)), (2, .int (nI bN)), (3, .int (nI iN)), (5, .int (nI ((rs r_28).2.length))), (6, .int (nI kN))]) hx hb dX3_find_134 hl (by decide) rfl (fun ls hl => ?_)
                        refine wd_loop1 (fun (q : Nat) (H : Heap) (locs : List Loc) (ls : Array Slot) => (q ≤ (rs r_28).2.length) ∧ (∃ w', wd_P D vwCl (wd_A w sg.heap.size) w' H ∧ rW cI m A (fun t => oI (tx t)) (kI kp) (fun r => (rs r).1) (fun r => nI (rs r).2.length) fI kp.length 0 pl XD XP XU XO XB w') ∧ va_S (wd_A w sg.heap.size) sg.heap H locs ∧ lv_has ls 9 [(0, .ref m), (1, .int (nI aN)), (2, .int (nI bN)), (3, .int (nI iN)), (5, .int (nI ((rs r_28).2.length))), (6, .int (nI kN)), (7, .int (j_b (u_stq (rs r_19).1 (rs r_19).2 (rs r_28).2 kN q))), (8, .int (nI q))]) (fun (q : Nat) => (rs r_28).2.length - q) 0 ⟨(by omega), ⟨_, hW, hR⟩, hS, (lv_sub hl [2, 3, 4, 5, 6, 7, 1, 0] rfl)⟩ (fun q H locs ls hI ih_136 => ?_)
                        obtain ⟨hq, ⟨w_l136, hW, hR⟩, hS, hl⟩ := hI
                        refine lv_iload hx hb dX3_find_136 (lv_at hl 7 rfl) ?_
                        refine lv_iload hx hb dX3_find_138 (lv_at hl 4 rfl) ?_
                        refine lv_icmp_ge (tgt := 181) hx hb dX3_find_140 (by decide) (fun c_140 => ?_) (fun c_140 => ?_)
                        ·
                          have c_140 : (rs r_28).2.length ≤ q := (nI_leI (by omega) (by omega)).mp (show (nI ((rs r_28).2.length) ≤ nI q) from c_140)
                          refine lv_iload hx hb dX3_find_181 (lv_at hl 6 rfl) ?_
                          refine lv_if_eq (tgt := 189) hx hb dX3_find_183 (by decide) (fun c_183 => ?_) (fun c_183 => ?_)
                          ·
                            have c_183 := j_b0 c_183
                            refine lv_iinc (v := nI (kN + 1)) (lv' := [(6, .int (nI (kN + 1))), (0, .ref m), (1, .int (nI aN)), (2, .int (nI bN)), (3, .int (nI iN)), (5, .int (nI ((rs r_28).2.length))), (7, .int (j_b (u_stq (rs r_19).1 (rs r_19).2 (rs r_28).2 kN q))), (8, .int (nI q))]) hx hb dX3_find_189 hl (k := 5) rfl (nI_add kN 1) (by decide) rfl (fun ls hl => ?_)
                            refine lv_goto (tgt := 90) hx hb dX3_find_192 (by decide) ?_
                            exact ih_90 (kN + 1) H locs ls ⟨(by omega), (hsr.trans ((j_srch_miss (P := u_st (rs r_19).1 (rs r_19).2 (rs r_28).2) (fun z => c_183 (u_stq_up z (by omega))) (by omega)).trans (by rw [show (rs r_19).2.length + 1 - (rs r_28).2.length - kN - 1 = (rs r_19).2.length + 1 - (rs r_28).2.length - (kN + 1) by omega]))), ⟨_, hW, hR⟩, hS, (lv_sub hl [1, 2, 3, 4, 5, 0] rfl)⟩ (by omega)
                          ·
                            have c_183 := j_bn c_183
                            refine lv_iload hx hb dX3_find_186 (lv_at hl 5 rfl) ?_
                            refine wd_iret hx hb hr hlocks hW hS dX3_find_188 ?_
                            have e9 : s_find (cd, pl, df, tx, kp, rs) (nI aN) (nI bN) (nI iN) = (nI kN, 0, pl, df, tx, kp, rs) := by simp only [s_find, if_neg (not_or.mpr ⟨c_4, c_11⟩), s_w2, if_neg (not_not_intro c_49), hcl_a, hcl_b, hcl_i, htx_19, htx_28]; rw [hsr, j_srch_hit (P := u_st (rs r_19).1 (rs r_19).2 (rs r_28).2) (show u_st (rs r_19).1 (rs r_19).2 (rs r_28).2 kN from by have h9 := c_183; rw [show q = (rs r_28).2.length by omega] at h9; exact h9) (by omega)]; first | done | rfl
                            show _ = (s_find (cd, pl, df, tx, kp, rs) (nI aN) (nI bN) (nI iN)).1 ∧ InvR cI m (s_find (cd, pl, df, tx, kp, rs) (nI aN) (nI bN) (nI iN)).2 _
                            rw [e9]
                            exact ⟨rfl, A, fI, XD, XP, XU, XO, XB, hR, hdf, hit⟩
                        ·
                          have c_140 : ¬ ((rs r_28).2.length ≤ q) := fun q9 => absurd ((nI_leI (by omega) (by omega)).mpr q9) (show ¬ (nI ((rs r_28).2.length) ≤ nI q) from c_140)
                          refine lv_iload hx hb dX3_find_143 (lv_at hl 6 rfl) ?_
                          refine lv_if_eq (tgt := 181) hx hb dX3_find_145 (by decide) (fun c_145 => ?_) (fun c_145 => ?_)
                          ·
                            have c_145 := j_b0 c_145
                            refine lv_iload hx hb dX3_find_181 (lv_at hl 6 rfl) ?_
                            refine lv_if_eq (tgt := 189) hx hb dX3_find_183 (by decide) (fun c_183 => ?_) (fun c_183 => ?_)
                            ·
                              have c_183 := j_b0 c_183
                              refine lv_iinc (v := nI (kN + 1)) (lv' := [(6, .int (nI (kN + 1))), (0, .ref m), (1, .int (nI aN)), (2, .int (nI bN)), (3, .int (nI iN)), (5, .int (nI ((rs r_28).2.length))), (7, .int (j_b (u_stq (rs r_19).1 (rs r_19).2 (rs r_28).2 kN q))), (8, .int (nI q))]) hx hb dX3_find_189 hl (k := 5) rfl (nI_add kN 1) (by decide) rfl (fun ls hl => ?_)
                              refine lv_goto (tgt := 90) hx hb dX3_find_192 (by decide) ?_
                              exact ih_90 (kN + 1) H locs ls ⟨(by omega), (hsr.trans ((j_srch_miss (P := u_st (rs r_19).1 (rs r_19).2 (rs r_28).2) (fun z => c_145 (u_stq_up z (by omega))) (by omega)).trans (by rw [show (rs r_19).2.length + 1 - (rs r_28).2.length - kN - 1 = (rs r_19).2.length + 1 - (rs r_28).2.length - (kN + 1) by omega]))), ⟨_, hW, hR⟩, hS, (lv_sub hl [1, 2, 3, 4, 5, 0] rfl)⟩ (by omega)
                            ·
                              exact absurd (j_bn c_183) c_145
                          ·
                            have c_145 := j_bn c_145
                            refine lv_aload_n hx hb dX3_find_148 rfl (lv_at hl 0 rfl) ?_
                            refine lv_iload_n hx hb dX3_find_149 rfl (lv_at hl 1 rfl) ?_
                            refine lv_iload hx hb dX3_find_150 (lv_at hl 5 rfl) ?_
                            refine lv_iload hx hb dX3_find_152 (lv_at hl 7 rfl) ?_
                            refine lv_iadd hx hb dX3_find_154 ?_
                            refine wd_topE (y := nI (kN + q)) (nI_add _ _) ?_
                            refine wd_callVi (As := [.int (nI aN), .int (nI (kN + q))]) (rest := []) (c2 := 0) (s2 := 0) ⟨hx, hb, hml, hown, hts⟩ (k_X3_item l D cI cT w_l136 H.size m A (kI kp) (fun r => (rs r).1) (fun r => nI (rs r).2.length) fI kp.length 0 pl XD XP XU XO XB tx rs aN r_19 (kN + q) hR (by omega) htx_19 hr24_19 hit (by omega)) (cwV 2 hts gX3_find_X3_item rfl rfl rfl (by decide +kernel) ⟨Nat.le_of_ble_eq_true rfl, Nat.le_of_ble_eq_true rfl⟩) gK_ok hK hW (wd_recv (ci := 3) hK.1 hW rfl hR.1) hS hA rfl hl.1 rfl (Nat.le_of_ble_eq_true rfl) dX3_find_155 ⟨Nat.le_of_ble_eq_true rfl, Nat.le_of_ble_eq_true rfl⟩ rfl rfl (fun r_155 w_155 H locs hp_155 hW hz hS => ?_)
                            obtain ⟨q_r, q_w⟩ := hp_155
                            subst r_155
                            subst w_155
                            refine lv_aload_n hx hb dX3_find_158 rfl (lv_at hl 0 rfl) ?_
                            refine lv_iload_n hx hb dX3_find_159 rfl (lv_at hl 2 rfl) ?_
                            refine lv_iload hx hb dX3_find_160 (lv_at hl 7 rfl) ?_
                            refine wd_callVi (As := [.int (nI bN), .int (nI q)]) (rest := [.int (lf (rs r_19).2 (kN + q))]) (c2 := 0) (s2 := 0) ⟨hx, hb, hml, hown, hts⟩ (k_X3_item l D cI cT w_l136 H.size m A (kI kp) (fun r => (rs r).1) (fun r => nI (rs r).2.length) fI kp.length 0 pl XD XP XU XO XB tx rs bN r_28 q hR (by omega) htx_28 hr24_28 hit (by omega)) (cwV 2 hts gX3_find_X3_item rfl rfl rfl (by decide +kernel) ⟨Nat.le_of_ble_eq_true rfl, Nat.le_of_ble_eq_true rfl⟩) gK_ok hK hW (wd_recv (ci := 3) hK.1 hW rfl hR.1) hS hA rfl hl.1 rfl (Nat.le_of_ble_eq_true rfl) dX3_find_162 ⟨Nat.le_of_ble_eq_true rfl, Nat.le_of_ble_eq_true rfl⟩ rfl rfl (fun r_162 w_162 H locs hp_162 hW hz hS => ?_)
                            obtain ⟨q_r, q_w⟩ := hp_162
                            subst r_162
                            subst w_162
                            refine lv_icmp_ne (tgt := 172) hx hb dX3_find_165 (by decide) (fun c_165 => ?_) (fun c_165 => ?_)
                            ·
                              refine lv_iconst (v := 0) hx hb dX3_find_172 (by decide) ?_
                              refine wd_topE (y := j_b (u_stq (rs r_19).1 (rs r_19).2 (rs r_28).2 kN (q + 1))) (j_bf (fun z => c_165 (z.2.2 q (by omega)))) ?_
                              refine lv_istore (lv' := [(7, .int (j_b (u_stq (rs r_19).1 (rs r_19).2 (rs r_28).2 kN (q + 1)))), (0, .ref m), (1, .int (nI aN)), (2, .int (nI bN)), (3, .int (nI iN)), (5, .int (nI ((rs r_28).2.length))), (6, .int (nI kN)), (8, .int (nI q))]) hx hb dX3_find_173 hl (by decide) rfl (fun ls hl => ?_)
                              refine lv_iinc (v := nI (q + 1)) (lv' := [(8, .int (nI (q + 1))), (7, .int (j_b (u_stq (rs r_19).1 (rs r_19).2 (rs r_28).2 kN (q + 1)))), (0, .ref m), (1, .int (nI aN)), (2, .int (nI bN)), (3, .int (nI iN)), (5, .int (nI ((rs r_28).2.length))), (6, .int (nI kN))]) hx hb dX3_find_175 hl (k := 7) rfl (nI_add q 1) (by decide) rfl (fun ls hl => ?_)
                              refine lv_goto (tgt := 136) hx hb dX3_find_178 (by decide) ?_
                              exact ih_136 (q + 1) H locs ls ⟨(by omega), ⟨_, hW, hR⟩, hS, (lv_sub hl [2, 3, 4, 5, 6, 7, 1, 0] rfl)⟩ (by omega)
                            ·
                              refine lv_iconst (v := 1) hx hb dX3_find_168 (by decide) ?_
                              refine wd_topE (y := j_b (u_stq (rs r_19).1 (rs r_19).2 (rs r_28).2 kN (q + 1))) (j_bt ⟨c_145.1, c_145.2.1, lt_s c_145.2.2 c_165⟩) ?_
                              refine lv_goto (tgt := 173) hx hb dX3_find_169 (by decide) ?_
                              refine lv_istore (lv' := [(7, .int (j_b (u_stq (rs r_19).1 (rs r_19).2 (rs r_28).2 kN (q + 1)))), (0, .ref m), (1, .int (nI aN)), (2, .int (nI bN)), (3, .int (nI iN)), (5, .int (nI ((rs r_28).2.length))), (6, .int (nI kN)), (8, .int (nI q))]) hx hb dX3_find_173 hl (by decide) rfl (fun ls hl => ?_)
                              refine lv_iinc (v := nI (q + 1)) (lv' := [(8, .int (nI (q + 1))), (7, .int (j_b (u_stq (rs r_19).1 (rs r_19).2 (rs r_28).2 kN (q + 1)))), (0, .ref m), (1, .int (nI aN)), (2, .int (nI bN)), (3, .int (nI iN)), (5, .int (nI ((rs r_28).2.length))), (6, .int (nI kN))]) hx hb dX3_find_175 hl (k := 7) rfl (nI_add q 1) (by decide) rfl (fun ls hl => ?_)
                              refine lv_goto (tgt := 136) hx hb dX3_find_178 (by decide) ?_
                              exact ih_136 (q + 1) H locs ls ⟨(by omega), ⟨_, hW, hR⟩, hS, (lv_sub hl [2, 3, 4, 5, 6, 7, 1, 0] rfl)⟩ (by omega)
                      ·
                        have c_110 := j_b0 c_110
                        refine lv_aload_n hx hb dX3_find_113 rfl (lv_at hl 0 rfl) ?_
                        refine lv_iload_n hx hb dX3_find_114 rfl (lv_at hl 1 rfl) ?_
                        refine lv_iload hx hb dX3_find_115 (lv_at hl 5 rfl) ?_
                        refine lv_iload hx hb dX3_find_117 (lv_at hl 4 rfl) ?_
                        refine lv_iadd hx hb dX3_find_119 ?_
                        refine wd_topE (y := nI (kN + (rs r_28).2.length)) (nI_add _ _) ?_
                        refine wd_callVi (As := [.int (nI aN), .int (nI (kN + (rs r_28).2.length))]) (rest := []) (c2 := 0) (s2 := 0) ⟨hx, hb, hml, hown, hts⟩ (k_X3_parts l D cI cT w_l90 H.size m A (kI kp) fI kp.length 0 pl XD XP XU XO XB tx rs aN r_19 (kN + (rs r_28).2.length) hR (by omega) htx_19 hr24_19 hlv hit (by omega)) (cwV 2 hts gX3_find_X3_parts rfl rfl rfl (by decide +kernel) ⟨Nat.le_of_ble_eq_true rfl, Nat.le_of_ble_eq_true rfl⟩) gK_ok hK hW (wd_recv (ci := 3) hK.1 hW rfl hR.1) hS hA rfl hl.1 rfl (Nat.le_of_ble_eq_true rfl) dX3_find_120 ⟨Nat.le_of_ble_eq_true rfl, Nat.le_of_ble_eq_true rfl⟩ rfl rfl (fun r_120 w_120 H locs hp_120 hW hz hS => ?_)
                        obtain ⟨q_r, q_w⟩ := hp_120
                        subst r_120
                        subst w_120
                        refine lv_if_ne (tgt := 130) hx hb dX3_find_123 (by decide) (fun c_123 => ?_) (fun c_123 => ?_)
                        ·
                          have c_123 := j_bn c_123
                          refine lv_iconst (v := 0) hx hb dX3_find_130 (by decide) ?_
                          refine wd_topE (y := j_b (u_stq (rs r_19).1 (rs r_19).2 (rs r_28).2 kN 0)) (j_bf (fun q => q.2.1 c_123)) ?_
                          refine lv_istore (lv' := [(7, .int (j_b (u_stq (rs r_19).1 (rs r_19).2 (rs r_28).2 kN 0))), (0, .ref m), (1, .int (nI aN)), (2, .int (nI bN)), (3, .int (nI iN)), (5, .int (nI ((rs r_28).2.length))), (6, .int (nI kN))]) hx hb dX3_find_131 hl (by decide) rfl (fun ls hl => ?_)
                          refine lv_iconst (v := 0) hx hb dX3_find_133 (by decide) ?_
                          refine lv_istore (lv' := [(8, .int 0), (7, .int (j_b (u_stq (rs r_19).1 (rs r_19).2 (rs r_28).2 kN 0))), (0, .ref m), (1, .int (nI aN)), (2, .int (nI bN)), (3, .int (nI iN)), (5, .int (nI ((rs r_28).2.length))), (6, .int (nI kN))]) hx hb dX3_find_134 hl (by decide) rfl (fun ls hl => ?_)
                          refine wd_loop1 (fun (q : Nat) (H : Heap) (locs : List Loc) (ls : Array Slot) => (q ≤ (rs r_28).2.length) ∧ (∃ w', wd_P D vwCl (wd_A w sg.heap.size) w' H ∧ rW cI m A (fun t => oI (tx t)) (kI kp) (fun r => (rs r).1) (fun r => nI (rs r).2.length) fI kp.length 0 pl XD XP XU XO XB w') ∧ va_S (wd_A w sg.heap.size) sg.heap H locs ∧ lv_has ls 9 [(0, .ref m), (1, .int (nI aN)), (2, .int (nI bN)), (3, .int (nI iN)), (5, .int (nI ((rs r_28).2.length))), (6, .int (nI kN)), (7, .int (j_b (u_stq (rs r_19).1 (rs r_19).2 (rs r_28).2 kN q))), (8, .int (nI q))]) (fun (q : Nat) => (rs r_28).2.length - q) 0 ⟨(by omega), ⟨_, hW, hR⟩, hS, (lv_sub hl [2, 3, 4, 5, 6, 7, 1, 0] rfl)⟩ (fun q H locs ls hI ih_136 => ?_)
                          obtain ⟨hq, ⟨w_l136, hW, hR⟩, hS, hl⟩ := hI
                          refine lv_iload hx hb dX3_find_136 (lv_at hl 7 rfl) ?_
                          refine lv_iload hx hb dX3_find_138 (lv_at hl 4 rfl) ?_
                          refine lv_icmp_ge (tgt := 181) hx hb dX3_find_140 (by decide) (fun c_140 => ?_) (fun c_140 => ?_)
                          ·
                            have c_140 : (rs r_28).2.length ≤ q := (nI_leI (by omega) (by omega)).mp (show (nI ((rs r_28).2.length) ≤ nI q) from c_140)
                            refine lv_iload hx hb dX3_find_181 (lv_at hl 6 rfl) ?_
                            refine lv_if_eq (tgt := 189) hx hb dX3_find_183 (by decide) (fun c_183 => ?_) (fun c_183 => ?_)
                            ·
                              have c_183 := j_b0 c_183
                              refine lv_iinc (v := nI (kN + 1)) (lv' := [(6, .int (nI (kN + 1))), (0, .ref m), (1, .int (nI aN)), (2, .int (nI bN)), (3, .int (nI iN)), (5, .int (nI ((rs r_28).2.length))), (7, .int (j_b (u_stq (rs r_19).1 (rs r_19).2 (rs r_28).2 kN q))), (8, .int (nI q))]) hx hb dX3_find_189 hl (k := 5) rfl (nI_add kN 1) (by decide) rfl (fun ls hl => ?_)
                              refine lv_goto (tgt := 90) hx hb dX3_find_192 (by decide) ?_
                              exact ih_90 (kN + 1) H locs ls ⟨(by omega), (hsr.trans ((j_srch_miss (P := u_st (rs r_19).1 (rs r_19).2 (rs r_28).2) (fun z => c_183 (u_stq_up z (by omega))) (by omega)).trans (by rw [show (rs r_19).2.length + 1 - (rs r_28).2.length - kN - 1 = (rs r_19).2.length + 1 - (rs r_28).2.length - (kN + 1) by omega]))), ⟨_, hW, hR⟩, hS, (lv_sub hl [1, 2, 3, 4, 5, 0] rfl)⟩ (by omega)
                            ·
                              have c_183 := j_bn c_183
                              refine lv_iload hx hb dX3_find_186 (lv_at hl 5 rfl) ?_
                              refine wd_iret hx hb hr hlocks hW hS dX3_find_188 ?_
                              have e9 : s_find (cd, pl, df, tx, kp, rs) (nI aN) (nI bN) (nI iN) = (nI kN, 0, pl, df, tx, kp, rs) := by simp only [s_find, if_neg (not_or.mpr ⟨c_4, c_11⟩), s_w2, if_neg (not_not_intro c_49), hcl_a, hcl_b, hcl_i, htx_19, htx_28]; rw [hsr, j_srch_hit (P := u_st (rs r_19).1 (rs r_19).2 (rs r_28).2) (show u_st (rs r_19).1 (rs r_19).2 (rs r_28).2 kN from by have h9 := c_183; rw [show q = (rs r_28).2.length by omega] at h9; exact h9) (by omega)]; first | done | rfl
                              show _ = (s_find (cd, pl, df, tx, kp, rs) (nI aN) (nI bN) (nI iN)).1 ∧ InvR cI m (s_find (cd, pl, df, tx, kp, rs) (nI aN) (nI bN) (nI iN)).2 _
                              rw [e9]
                              exact ⟨rfl, A, fI, XD, XP, XU, XO, XB, hR, hdf, hit⟩
                          ·
                            have c_140 : ¬ ((rs r_28).2.length ≤ q) := fun q9 => absurd ((nI_leI (by omega) (by omega)).mpr q9) (show ¬ (nI ((rs r_28).2.length) ≤ nI q) from c_140)
                            refine lv_iload hx hb dX3_find_143 (lv_at hl 6 rfl) ?_
                            refine lv_if_eq (tgt := 181) hx hb dX3_find_145 (by decide) (fun c_145 => ?_) (fun c_145 => ?_)
                            ·
                              have c_145 := j_b0 c_145
                              refine lv_iload hx hb dX3_find_181 (lv_at hl 6 rfl) ?_
                              refine lv_if_eq (tgt := 189) hx hb dX3_find_183 (by decide) (fun c_183 => ?_) (fun c_183 => ?_)
                              ·
                                have c_183 := j_b0 c_183
                                refine lv_iinc (v := nI (kN + 1)) (lv' := [(6, .int (nI (kN + 1))), (0, .ref m), (1, .int (nI aN)), (2, .int (nI bN)), (3, .int (nI iN)), (5, .int (nI ((rs r_28).2.length))), (7, .int (j_b (u_stq (rs r_19).1 (rs r_19).2 (rs r_28).2 kN q))), (8, .int (nI q))]) hx hb dX3_find_189 hl (k := 5) rfl (nI_add kN 1) (by decide) rfl (fun ls hl => ?_)
                                refine lv_goto (tgt := 90) hx hb dX3_find_192 (by decide) ?_
                                exact ih_90 (kN + 1) H locs ls ⟨(by omega), (hsr.trans ((j_srch_miss (P := u_st (rs r_19).1 (rs r_19).2 (rs r_28).2) (fun z => c_145 (u_stq_up z (by omega))) (by omega)).trans (by rw [show (rs r_19).2.length + 1 - (rs r_28).2.length - kN - 1 = (rs r_19).2.length + 1 - (rs r_28).2.length - (kN + 1) by omega]))), ⟨_, hW, hR⟩, hS, (lv_sub hl [1, 2, 3, 4, 5, 0] rfl)⟩ (by omega)
                              ·
                                exact absurd (j_bn c_183) c_145
                            ·
                              have c_145 := j_bn c_145
                              refine lv_aload_n hx hb dX3_find_148 rfl (lv_at hl 0 rfl) ?_
                              refine lv_iload_n hx hb dX3_find_149 rfl (lv_at hl 1 rfl) ?_
                              refine lv_iload hx hb dX3_find_150 (lv_at hl 5 rfl) ?_
                              refine lv_iload hx hb dX3_find_152 (lv_at hl 7 rfl) ?_
                              refine lv_iadd hx hb dX3_find_154 ?_
                              refine wd_topE (y := nI (kN + q)) (nI_add _ _) ?_
                              refine wd_callVi (As := [.int (nI aN), .int (nI (kN + q))]) (rest := []) (c2 := 0) (s2 := 0) ⟨hx, hb, hml, hown, hts⟩ (k_X3_item l D cI cT w_l136 H.size m A (kI kp) (fun r => (rs r).1) (fun r => nI (rs r).2.length) fI kp.length 0 pl XD XP XU XO XB tx rs aN r_19 (kN + q) hR (by omega) htx_19 hr24_19 hit (by omega)) (cwV 2 hts gX3_find_X3_item rfl rfl rfl (by decide +kernel) ⟨Nat.le_of_ble_eq_true rfl, Nat.le_of_ble_eq_true rfl⟩) gK_ok hK hW (wd_recv (ci := 3) hK.1 hW rfl hR.1) hS hA rfl hl.1 rfl (Nat.le_of_ble_eq_true rfl) dX3_find_155 ⟨Nat.le_of_ble_eq_true rfl, Nat.le_of_ble_eq_true rfl⟩ rfl rfl (fun r_155 w_155 H locs hp_155 hW hz hS => ?_)
                              obtain ⟨q_r, q_w⟩ := hp_155
                              subst r_155
                              subst w_155
                              refine lv_aload_n hx hb dX3_find_158 rfl (lv_at hl 0 rfl) ?_
                              refine lv_iload_n hx hb dX3_find_159 rfl (lv_at hl 2 rfl) ?_
                              refine lv_iload hx hb dX3_find_160 (lv_at hl 7 rfl) ?_
                              refine wd_callVi (As := [.int (nI bN), .int (nI q)]) (rest := [.int (lf (rs r_19).2 (kN + q))]) (c2 := 0) (s2 := 0) ⟨hx, hb, hml, hown, hts⟩ (k_X3_item l D cI cT w_l136 H.size m A (kI kp) (fun r => (rs r).1) (fun r => nI (rs r).2.length) fI kp.length 0 pl XD XP XU XO XB tx rs bN r_28 q hR (by omega) htx_28 hr24_28 hit (by omega)) (cwV 2 hts gX3_find_X3_item rfl rfl rfl (by decide +kernel) ⟨Nat.le_of_ble_eq_true rfl, Nat.le_of_ble_eq_true rfl⟩) gK_ok hK hW (wd_recv (ci := 3) hK.1 hW rfl hR.1) hS hA rfl hl.1 rfl (Nat.le_of_ble_eq_true rfl) dX3_find_162 ⟨Nat.le_of_ble_eq_true rfl, Nat.le_of_ble_eq_true rfl⟩ rfl rfl (fun r_162 w_162 H locs hp_162 hW hz hS => ?_)
                              obtain ⟨q_r, q_w⟩ := hp_162
                              subst r_162
                              subst w_162
                              refine lv_icmp_ne (tgt := 172) hx hb dX3_find_165 (by decide) (fun c_165 => ?_) (fun c_165 => ?_)
                              ·
                                refine lv_iconst (v := 0) hx hb dX3_find_172 (by decide) ?_
                                refine wd_topE (y := j_b (u_stq (rs r_19).1 (rs r_19).2 (rs r_28).2 kN (q + 1))) (j_bf (fun z => c_165 (z.2.2 q (by omega)))) ?_
                                refine lv_istore (lv' := [(7, .int (j_b (u_stq (rs r_19).1 (rs r_19).2 (rs r_28).2 kN (q + 1)))), (0, .ref m), (1, .int (nI aN)), (2, .int (nI bN)), (3, .int (nI iN)), (5, .int (nI ((rs r_28).2.length))), (6, .int (nI kN)), (8, .int (nI q))]) hx hb dX3_find_173 hl (by decide) rfl (fun ls hl => ?_)
                                refine lv_iinc (v := nI (q + 1)) (lv' := [(8, .int (nI (q + 1))), (7, .int (j_b (u_stq (rs r_19).1 (rs r_19).2 (rs r_28).2 kN (q + 1)))), (0, .ref m), (1, .int (nI aN)), (2, .int (nI bN)), (3, .int (nI iN)), (5, .int (nI ((rs r_28).2.length))), (6, .int (nI kN))]) hx hb dX3_find_175 hl (k := 7) rfl (nI_add q 1) (by decide) rfl (fun ls hl => ?_)
                                refine lv_goto (tgt := 136) hx hb dX3_find_178 (by decide) ?_
                                exact ih_136 (q + 1) H locs ls ⟨(by omega), ⟨_, hW, hR⟩, hS, (lv_sub hl [2, 3, 4, 5, 6, 7, 1, 0] rfl)⟩ (by omega)
                              ·
                                refine lv_iconst (v := 1) hx hb dX3_find_168 (by decide) ?_
                                refine wd_topE (y := j_b (u_stq (rs r_19).1 (rs r_19).2 (rs r_28).2 kN (q + 1))) (j_bt ⟨c_145.1, c_145.2.1, lt_s c_145.2.2 c_165⟩) ?_
                                refine lv_goto (tgt := 173) hx hb dX3_find_169 (by decide) ?_
                                refine lv_istore (lv' := [(7, .int (j_b (u_stq (rs r_19).1 (rs r_19).2 (rs r_28).2 kN (q + 1)))), (0, .ref m), (1, .int (nI aN)), (2, .int (nI bN)), (3, .int (nI iN)), (5, .int (nI ((rs r_28).2.length))), (6, .int (nI kN)), (8, .int (nI q))]) hx hb dX3_find_173 hl (by decide) rfl (fun ls hl => ?_)
                                refine lv_iinc (v := nI (q + 1)) (lv' := [(8, .int (nI (q + 1))), (7, .int (j_b (u_stq (rs r_19).1 (rs r_19).2 (rs r_28).2 kN (q + 1)))), (0, .ref m), (1, .int (nI aN)), (2, .int (nI bN)), (3, .int (nI iN)), (5, .int (nI ((rs r_28).2.length))), (6, .int (nI kN))]) hx hb dX3_find_175 hl (k := 7) rfl (nI_add q 1) (by decide) rfl (fun ls hl => ?_)
                                refine lv_goto (tgt := 136) hx hb dX3_find_178 (by decide) ?_
                                exact ih_136 (q + 1) H locs ls ⟨(by omega), ⟨_, hW, hR⟩, hS, (lv_sub hl [2, 3, 4, 5, 6, 7, 1, 0] rfl)⟩ (by omega)
                        ·
                          have c_123 := j_b0 c_123
                          refine lv_iconst (v := 1) hx hb dX3_find_126 (by decide) ?_
                          refine wd_topE (y := j_b (u_stq (rs r_19).1 (rs r_19).2 (rs r_28).2 kN 0)) (j_bt ⟨c_110, c_123, fun m hm => absurd hm (Nat.not_lt_zero m)⟩) ?_
                          refine lv_goto (tgt := 131) hx hb dX3_find_127 (by decide) ?_
                          refine lv_istore (lv' := [(7, .int (j_b (u_stq (rs r_19).1 (rs r_19).2 (rs r_28).2 kN 0))), (0, .ref m), (1, .int (nI aN)), (2, .int (nI bN)), (3, .int (nI iN)), (5, .int (nI ((rs r_28).2.length))), (6, .int (nI kN))]) hx hb dX3_find_131 hl (by decide) rfl (fun ls hl => ?_)
                          refine lv_iconst (v := 0) hx hb dX3_find_133 (by decide) ?_
                          refine lv_istore (lv' := [(8, .int 0), (7, .int (j_b (u_stq (rs r_19).1 (rs r_19).2 (rs r_28).2 kN 0))), (0, .ref m), (1, .int (nI aN)), (2, .int (nI bN)), (3, .int (nI iN)), (5, .int (nI ((rs r_28).2.length))), (6, .int (nI kN))]) hx hb dX3_find_134 hl (by decide) rfl (fun ls hl => ?_)
                          refine wd_loop1 (fun (q : Nat) (H : Heap) (locs : List Loc) (ls : Array Slot) => (q ≤ (rs r_28).2.length) ∧ (∃ w', wd_P D vwCl (wd_A w sg.heap.size) w' H ∧ rW cI m A (fun t => oI (tx t)) (kI kp) (fun r => (rs r).1) (fun r => nI (rs r).2.length) fI kp.length 0 pl XD XP XU XO XB w') ∧ va_S (wd_A w sg.heap.size) sg.heap H locs ∧ lv_has ls 9 [(0, .ref m), (1, .int (nI aN)), (2, .int (nI bN)), (3, .int (nI iN)), (5, .int (nI ((rs r_28).2.length))), (6, .int (nI kN)), (7, .int (j_b (u_stq (rs r_19).1 (rs r_19).2 (rs r_28).2 kN q))), (8, .int (nI q))]) (fun (q : Nat) => (rs r_28).2.length - q) 0 ⟨(by omega), ⟨_, hW, hR⟩, hS, (lv_sub hl [2, 3, 4, 5, 6, 7, 1, 0] rfl)⟩ (fun q H locs ls hI ih_136 => ?_)
                          obtain ⟨hq, ⟨w_l136, hW, hR⟩, hS, hl⟩ := hI
                          refine lv_iload hx hb dX3_find_136 (lv_at hl 7 rfl) ?_
                          refine lv_iload hx hb dX3_find_138 (lv_at hl 4 rfl) ?_
                          refine lv_icmp_ge (tgt := 181) hx hb dX3_find_140 (by decide) (fun c_140 => ?_) (fun c_140 => ?_)
                          ·
                            have c_140 : (rs r_28).2.length ≤ q := (nI_leI (by omega) (by omega)).mp (show (nI ((rs r_28).2.length) ≤ nI q) from c_140)
                            refine lv_iload hx hb dX3_find_181 (lv_at hl 6 rfl) ?_
                            refine lv_if_eq (tgt := 189) hx hb dX3_find_183 (by decide) (fun c_183 => ?_) (fun c_183 => ?_)
                            ·
                              have c_183 := j_b0 c_183
                              refine lv_iinc (v := nI (kN + 1)) (lv' := [(6, .int (nI (kN + 1))), (0, .ref m), (1, .int (nI aN)), (2, .int (nI bN)), (3, .int (nI iN)), (5, .int (nI ((rs r_28).2.length))), (7, .int (j_b (u_stq (rs r_19).1 (rs r_19).2 (rs r_28).2 kN q))), (8, .int (nI q))]) hx hb dX3_find_189 hl (k := 5) rfl (nI_add kN 1) (by decide) rfl (fun ls hl => ?_)
                              refine lv_goto (tgt := 90) hx hb dX3_find_192 (by decide) ?_
                              exact ih_90 (kN + 1) H locs ls ⟨(by omega), (hsr.trans ((j_srch_miss (P := u_st (rs r_19).1 (rs r_19).2 (rs r_28).2) (fun z => c_183 (u_stq_up z (by omega))) (by omega)).trans (by rw [show (rs r_19).2.length + 1 - (rs r_28).2.length - kN - 1 = (rs r_19).2.length + 1 - (rs r_28).2.length - (kN + 1) by omega]))), ⟨_, hW, hR⟩, hS, (lv_sub hl [1, 2, 3, 4, 5, 0] rfl)⟩ (by omega)
                            ·
                              have c_183 := j_bn c_183
                              refine lv_iload hx hb dX3_find_186 (lv_at hl 5 rfl) ?_
                              refine wd_iret hx hb hr hlocks hW hS dX3_find_188 ?_
                              have e9 : s_find (cd, pl, df, tx, kp, rs) (nI aN) (nI bN) (nI iN) = (nI kN, 0, pl, df, tx, kp, rs) := by simp only [s_find, if_neg (not_or.mpr ⟨c_4, c_11⟩), s_w2, if_neg (not_not_intro c_49), hcl_a, hcl_b, hcl_i, htx_19, htx_28]; rw [hsr, j_srch_hit (P := u_st (rs r_19).1 (rs r_19).2 (rs r_28).2) (show u_st (rs r_19).1 (rs r_19).2 (rs r_28).2 kN from by have h9 := c_183; rw [show q = (rs r_28).2.length by omega] at h9; exact h9) (by omega)]; first | done | rfl
                              show _ = (s_find (cd, pl, df, tx, kp, rs) (nI aN) (nI bN) (nI iN)).1 ∧ InvR cI m (s_find (cd, pl, df, tx, kp, rs) (nI aN) (nI bN) (nI iN)).2 _
                              rw [e9]
                              exact ⟨rfl, A, fI, XD, XP, XU, XO, XB, hR, hdf, hit⟩
                          ·
                            have c_140 : ¬ ((rs r_28).2.length ≤ q) := fun q9 => absurd ((nI_leI (by omega) (by omega)).mpr q9) (show ¬ (nI ((rs r_28).2.length) ≤ nI q) from c_140)
                            refine lv_iload hx hb dX3_find_143 (lv_at hl 6 rfl) ?_
                            refine lv_if_eq (tgt := 181) hx hb dX3_find_145 (by decide) (fun c_145 => ?_) (fun c_145 => ?_)
                            ·
                              have c_145 := j_b0 c_145
                              refine lv_iload hx hb dX3_find_181 (lv_at hl 6 rfl) ?_
                              refine lv_if_eq (tgt := 189) hx hb dX3_find_183 (by decide) (fun c_183 => ?_) (fun c_183 => ?_)
                              ·
                                have c_183 := j_b0 c_183
                                refine lv_iinc (v := nI (kN + 1)) (lv' := [(6, .int (nI (kN + 1))), (0, .ref m), (1, .int (nI aN)), (2, .int (nI bN)), (3, .int (nI iN)), (5, .int (nI ((rs r_28).2.length))), (7, .int (j_b (u_stq (rs r_19).1 (rs r_19).2 (rs r_28).2 kN q))), (8, .int (nI q))]) hx hb dX3_find_189 hl (k := 5) rfl (nI_add kN 1) (by decide) rfl (fun ls hl => ?_)
                                refine lv_goto (tgt := 90) hx hb dX3_find_192 (by decide) ?_
                                exact ih_90 (kN + 1) H locs ls ⟨(by omega), (hsr.trans ((j_srch_miss (P := u_st (rs r_19).1 (rs r_19).2 (rs r_28).2) (fun z => c_145 (u_stq_up z (by omega))) (by omega)).trans (by rw [show (rs r_19).2.length + 1 - (rs r_28).2.length - kN - 1 = (rs r_19).2.length + 1 - (rs r_28).2.length - (kN + 1) by omega]))), ⟨_, hW, hR⟩, hS, (lv_sub hl [1, 2, 3, 4, 5, 0] rfl)⟩ (by omega)
                              ·
                                exact absurd (j_bn c_183) c_145
                            ·
                              have c_145 := j_bn c_145
                              refine lv_aload_n hx hb dX3_find_148 rfl (lv_at hl 0 rfl) ?_
                              refine lv_iload_n hx hb dX3_find_149 rfl (lv_at hl 1 rfl) ?_
                              refine lv_iload hx hb dX3_find_150 (lv_at hl 5 rfl) ?_
                              refine lv_iload hx hb dX3_find_152 (lv_at hl 7 rfl) ?_
                              refine lv_iadd hx hb dX3_find_154 ?_
                              refine wd_topE (y := nI (kN + q)) (nI_add _ _) ?_
                              refine wd_callVi (As := [.int (nI aN), .int (nI (kN + q))]) (rest := []) (c2 := 0) (s2 := 0) ⟨hx, hb, hml, hown, hts⟩ (k_X3_item l D cI cT w_l136 H.size m A (kI kp) (fun r => (rs r).1) (fun r => nI (rs r).2.length) fI kp.length 0 pl XD XP XU XO XB tx rs aN r_19 (kN + q) hR (by omega) htx_19 hr24_19 hit (by omega)) (cwV 2 hts gX3_find_X3_item rfl rfl rfl (by decide +kernel) ⟨Nat.le_of_ble_eq_true rfl, Nat.le_of_ble_eq_true rfl⟩) gK_ok hK hW (wd_recv (ci := 3) hK.1 hW rfl hR.1) hS hA rfl hl.1 rfl (Nat.le_of_ble_eq_true rfl) dX3_find_155 ⟨Nat.le_of_ble_eq_true rfl, Nat.le_of_ble_eq_true rfl⟩ rfl rfl (fun r_155 w_155 H locs hp_155 hW hz hS => ?_)
                              obtain ⟨q_r, q_w⟩ := hp_155
                              subst r_155
                              subst w_155
                              refine lv_aload_n hx hb dX3_find_158 rfl (lv_at hl 0 rfl) ?_
                              refine lv_iload_n hx hb dX3_find_159 rfl (lv_at hl 2 rfl) ?_
                              refine lv_iload hx hb dX3_find_160 (lv_at hl 7 rfl) ?_
                              refine wd_callVi (As := [.int (nI bN), .int (nI q)]) (rest := [.int (lf (rs r_19).2 (kN + q))]) (c2 := 0) (s2 := 0) ⟨hx, hb, hml, hown, hts⟩ (k_X3_item l D cI cT w_l136 H.size m A (kI kp) (fun r => (rs r).1) (fun r => nI (rs r).2.length) fI kp.length 0 pl XD XP XU XO XB tx rs bN r_28 q hR (by omega) htx_28 hr24_28 hit (by omega)) (cwV 2 hts gX3_find_X3_item rfl rfl rfl (by decide +kernel) ⟨Nat.le_of_ble_eq_true rfl, Nat.le_of_ble_eq_true rfl⟩) gK_ok hK hW (wd_recv (ci := 3) hK.1 hW rfl hR.1) hS hA rfl hl.1 rfl (Nat.le_of_ble_eq_true rfl) dX3_find_162 ⟨Nat.le_of_ble_eq_true rfl, Nat.le_of_ble_eq_true rfl⟩ rfl rfl (fun r_162 w_162 H locs hp_162 hW hz hS => ?_)
                              obtain ⟨q_r, q_w⟩ := hp_162
                              subst r_162
                              subst w_162
                              refine lv_icmp_ne (tgt := 172) hx hb dX3_find_165 (by decide) (fun c_165 => ?_) (fun c_165 => ?_)
                              ·
                                refine lv_iconst (v := 0) hx hb dX3_find_172 (by decide) ?_
                                refine wd_topE (y := j_b (u_stq (rs r_19).1 (rs r_19).2 (rs r_28).2 kN (q + 1))) (j_bf (fun z => c_165 (z.2.2 q (by omega)))) ?_
                                refine lv_istore (lv' := [(7, .int (j_b (u_stq (rs r_19).1 (rs r_19).2 (rs r_28).2 kN (q + 1)))), (0, .ref m), (1, .int (nI aN)), (2, .int (nI bN)), (3, .int (nI iN)), (5, .int (nI ((rs r_28).2.length))), (6, .int (nI kN)), (8, .int (nI q))]) hx hb dX3_find_173 hl (by decide) rfl (fun ls hl => ?_)
                                refine lv_iinc (v := nI (q + 1)) (lv' := [(8, .int (nI (q + 1))), (7, .int (j_b (u_stq (rs r_19).1 (rs r_19).2 (rs r_28).2 kN (q + 1)))), (0, .ref m), (1, .int (nI aN)), (2, .int (nI bN)), (3, .int (nI iN)), (5, .int (nI ((rs r_28).2.length))), (6, .int (nI kN))]) hx hb dX3_find_175 hl (k := 7) rfl (nI_add q 1) (by decide) rfl (fun ls hl => ?_)
                                refine lv_goto (tgt := 136) hx hb dX3_find_178 (by decide) ?_
                                exact ih_136 (q + 1) H locs ls ⟨(by omega), ⟨_, hW, hR⟩, hS, (lv_sub hl [2, 3, 4, 5, 6, 7, 1, 0] rfl)⟩ (by omega)
                              ·
                                refine lv_iconst (v := 1) hx hb dX3_find_168 (by decide) ?_
                                refine wd_topE (y := j_b (u_stq (rs r_19).1 (rs r_19).2 (rs r_28).2 kN (q + 1))) (j_bt ⟨c_145.1, c_145.2.1, lt_s c_145.2.2 c_165⟩) ?_
                                refine lv_goto (tgt := 173) hx hb dX3_find_169 (by decide) ?_
                                refine lv_istore (lv' := [(7, .int (j_b (u_stq (rs r_19).1 (rs r_19).2 (rs r_28).2 kN (q + 1)))), (0, .ref m), (1, .int (nI aN)), (2, .int (nI bN)), (3, .int (nI iN)), (5, .int (nI ((rs r_28).2.length))), (6, .int (nI kN)), (8, .int (nI q))]) hx hb dX3_find_173 hl (by decide) rfl (fun ls hl => ?_)
                                refine lv_iinc (v := nI (q + 1)) (lv' := [(8, .int (nI (q + 1))), (7, .int (j_b (u_stq (rs r_19).1 (rs r_19).2 (rs r_28).2 kN (q + 1)))), (0, .ref m), (1, .int (nI aN)), (2, .int (nI bN)), (3, .int (nI iN)), (5, .int (nI ((rs r_28).2.length))), (6, .int (nI kN))]) hx hb dX3_find_175 hl (k := 7) rfl (nI_add q 1) (by decide) rfl (fun ls hl => ?_)
                                refine lv_goto (tgt := 136) hx hb dX3_find_178 (by decide) ?_
                                exact ih_136 (q + 1) H locs ls ⟨(by omega), ⟨_, hW, hR⟩, hS, (lv_sub hl [2, 3, 4, 5, 6, 7, 1, 0] rfl)⟩ (by omega)
                  ·
                    simp only [i_le, Decidable.not_not] at c_80
                    have hcl_i : i.toNatClampNeg = 0 := clamp_neg c_80
                    refine lv_iconst (v := 0) hx hb dX3_find_83 (by decide) ?_
                    refine lv_goto (tgt := 88) hx hb dX3_find_84 (by decide) ?_
                    refine lv_istore (lv' := [(6, .int 0), (5, .int (nI ((rs r_28).2.length))), (4, .int 0), (0, .ref m), (1, .int (nI aN)), (2, .int (nI bN)), (3, .int i)]) hx hb dX3_find_88 hl (by decide) rfl (fun ls hl => ?_)
                    refine wd_loop1 (fun (kN : Nat) (H : Heap) (locs : List Loc) (ls : Array Slot) => (kN < 2 ^ 31) ∧ (j_srch (u_st (rs r_19).1 (rs r_19).2 (rs r_28).2) ((rs r_19).2.length + 1 - (rs r_28).2.length - 0) 0 = j_srch (u_st (rs r_19).1 (rs r_19).2 (rs r_28).2) ((rs r_19).2.length + 1 - (rs r_28).2.length - kN) kN) ∧ (∃ w', wd_P D vwCl (wd_A w sg.heap.size) w' H ∧ rW cI m A (fun t => oI (tx t)) (kI kp) (fun r => (rs r).1) (fun r => nI (rs r).2.length) fI kp.length 0 pl XD XP XU XO XB w') ∧ va_S (wd_A w sg.heap.size) sg.heap H locs ∧ lv_has ls 9 [(0, .ref m), (1, .int (nI aN)), (2, .int (nI bN)), (3, .int i), (5, .int (nI ((rs r_28).2.length))), (6, .int (nI kN))]) (fun (kN : Nat) => (rs r_19).2.length + 1 - (rs r_28).2.length - kN) 0 ⟨(by omega), rfl, ⟨_, hW, hR⟩, hS, (lv_sub hl [3, 4, 5, 6, 1, 0] rfl)⟩ (fun kN H locs ls hI ih_90 => ?_)
                    obtain ⟨hkN, hsr, ⟨w_l90, hW, hR⟩, hS, hl⟩ := hI
                    refine lv_iload hx hb dX3_find_90 (lv_at hl 5 rfl) ?_
                    refine lv_aload_n hx hb dX3_find_92 rfl (lv_at hl 0 rfl) ?_
                    refine lv_iload_n hx hb dX3_find_93 rfl (lv_at hl 1 rfl) ?_
                    refine wd_callVi (As := [.int (nI aN)]) (rest := [.int (nI kN)]) (c2 := 0) (s2 := 0) ⟨hx, hb, hml, hown, hts⟩ (k_X3_manyOf l D cI cT w_l90 H.size m A (kI kp) (fun r => (rs r).1) fI kp.length 0 pl XD XP XU XO XB tx rs aN r_19 hR (by omega) htx_19 hr24_19) (cwV 1 hts gX3_find_X3_manyOf rfl rfl rfl (by decide +kernel) ⟨Nat.le_of_ble_eq_true rfl, Nat.le_of_ble_eq_true rfl⟩) gK_ok hK hW (wd_recv (ci := 3) hK.1 hW rfl hR.1) hS hA rfl hl.1 rfl (Nat.le_of_ble_eq_true rfl) dX3_find_94 ⟨Nat.le_of_ble_eq_true rfl, Nat.le_of_ble_eq_true rfl⟩ rfl rfl (fun r_94 w_94 H locs hp_94 hW hz hS => ?_)
                    obtain ⟨q_r, q_w⟩ := hp_94
                    subst r_94
                    subst w_94
                    refine lv_iload hx hb dX3_find_97 (lv_at hl 4 rfl) ?_
                    refine lv_isub hx hb dX3_find_99 ?_
                    refine lv_icmp_gt (tgt := 195) hx hb dX3_find_100 (by decide) (fun c_100 => ?_) (fun c_100 => ?_)
                    ·
                      have c_100 := (last_iff (by omega) (by omega) (by omega)).mp c_100
                      refine lv_iconst (v := (-1)) hx hb dX3_find_195 (by decide) ?_
                      refine wd_iret hx hb hr hlocks hW hS dX3_find_196 ?_
                      have e9 : s_find (cd, pl, df, tx, kp, rs) (nI aN) (nI bN) i = ((-1), 0, pl, df, tx, kp, rs) := by simp only [s_find, if_neg (not_or.mpr ⟨c_4, c_11⟩), s_w2, if_neg (not_not_intro c_49), hcl_a, hcl_b, hcl_i, htx_19, htx_28]; rw [hsr, j_srch_0 (by omega)]; first | done | rfl
                      show _ = (s_find (cd, pl, df, tx, kp, rs) (nI aN) (nI bN) i).1 ∧ InvR cI m (s_find (cd, pl, df, tx, kp, rs) (nI aN) (nI bN) i).2 _
                      rw [e9]
                      exact ⟨rfl, A, fI, XD, XP, XU, XO, XB, hR, hdf, hit⟩
                    ·
                      have c_100 : ¬ ((rs r_19).2.length + 1 - (rs r_28).2.length ≤ kN) := fun z => c_100 ((last_iff (by omega) (by omega) (by omega)).mpr z)
                      refine lv_aload_n hx hb dX3_find_103 rfl (lv_at hl 0 rfl) ?_
                      refine lv_iload_n hx hb dX3_find_104 rfl (lv_at hl 1 rfl) ?_
                      refine lv_iload hx hb dX3_find_105 (lv_at hl 5 rfl) ?_
                      refine wd_callVi (As := [.int (nI aN), .int (nI kN)]) (rest := []) (c2 := 0) (s2 := 0) ⟨hx, hb, hml, hown, hts⟩ (k_X3_parts l D cI cT w_l90 H.size m A (kI kp) fI kp.length 0 pl XD XP XU XO XB tx rs aN r_19 kN hR (by omega) htx_19 hr24_19 hlv hit (by omega)) (cwV 2 hts gX3_find_X3_parts rfl rfl rfl (by decide +kernel) ⟨Nat.le_of_ble_eq_true rfl, Nat.le_of_ble_eq_true rfl⟩) gK_ok hK hW (wd_recv (ci := 3) hK.1 hW rfl hR.1) hS hA rfl hl.1 rfl (Nat.le_of_ble_eq_true rfl) dX3_find_107 ⟨Nat.le_of_ble_eq_true rfl, Nat.le_of_ble_eq_true rfl⟩ rfl rfl (fun r_107 w_107 H locs hp_107 hW hz hS => ?_)
                      obtain ⟨q_r, q_w⟩ := hp_107
                      subst r_107
                      subst w_107
                      refine lv_if_ne (tgt := 130) hx hb dX3_find_110 (by decide) (fun c_110 => ?_) (fun c_110 => ?_)
                      ·
                        have c_110 := j_bn c_110
                        refine lv_iconst (v := 0) hx hb dX3_find_130 (by decide) ?_
                        refine wd_topE (y := j_b (u_stq (rs r_19).1 (rs r_19).2 (rs r_28).2 kN 0)) (j_bf (fun q => q.1 c_110)) ?_
                        refine lv_istore (lv' := [(7, .int (j_b (u_stq (rs r_19).1 (rs r_19).2 (rs r_28).2 kN 0))), (0, .ref m), (1, .int (nI aN)), (2, .int (nI bN)), (3, .int i), (5, .int (nI ((rs r_28).2.length))), (6, .int (nI kN))]) hx hb dX3_find_131 hl (by decide) rfl (fun ls hl => ?_)
                        refine lv_iconst (v := 0) hx hb dX3_find_133 (by decide) ?_
                        refine lv_istore (lv' := [(8, .int 0), (7, .int (j_b (u_stq (rs r_19).1 (rs r_19).2 (rs r_28).2 kN 0))), (0, .ref m), (1, .int (nI aN)), (2, .int (nI bN)), (3, .int i), (5, .int (nI ((rs r_28).2.length))), (6, .int (nI kN))]) hx hb dX3_find_134 hl (by decide) rfl (fun ls hl => ?_)
                        refine wd_loop1 (fun (q : Nat) (H : Heap) (locs : List Loc) (ls : Array Slot) => (q ≤ (rs r_28).2.length) ∧ (∃ w', wd_P D vwCl (wd_A w sg.heap.size) w' H ∧ rW cI m A (fun t => oI (tx t)) (kI kp) (fun r => (rs r).1) (fun r => nI (rs r).2.length) fI kp.length 0 pl XD XP XU XO XB w') ∧ va_S (wd_A w sg.heap.size) sg.heap H locs ∧ lv_has ls 9 [(0, .ref m), (1, .int (nI aN)), (2, .int (nI bN)), (3, .int i), (5, .int (nI ((rs r_28).2.length))), (6, .int (nI kN)), (7, .int (j_b (u_stq (rs r_19).1 (rs r_19).2 (rs r_28).2 kN q))), (8, .int (nI q))]) (fun (q : Nat) => (rs r_28).2.length - q) 0 ⟨(by omega), ⟨_, hW, hR⟩, hS, (lv_sub hl [2, 3, 4, 5, 6, 7, 1, 0] rfl)⟩ (fun q H locs ls hI ih_136 => ?_)
                        obtain ⟨hq, ⟨w_l136, hW, hR⟩, hS, hl⟩ := hI
                        refine lv_iload hx hb dX3_find_136 (lv_at hl 7 rfl) ?_
                        refine lv_iload hx hb dX3_find_138 (lv_at hl 4 rfl) ?_
                        refine lv_icmp_ge (tgt := 181) hx hb dX3_find_140 (by decide) (fun c_140 => ?_) (fun c_140 => ?_)
                        ·
                          have c_140 : (rs r_28).2.length ≤ q := (nI_leI (by omega) (by omega)).mp (show (nI ((rs r_28).2.length) ≤ nI q) from c_140)
                          refine lv_iload hx hb dX3_find_181 (lv_at hl 6 rfl) ?_
                          refine lv_if_eq (tgt := 189) hx hb dX3_find_183 (by decide) (fun c_183 => ?_) (fun c_183 => ?_)
                          ·
                            have c_183 := j_b0 c_183
                            refine lv_iinc (v := nI (kN + 1)) (lv' := [(6, .int (nI (kN + 1))), (0, .ref m), (1, .int (nI aN)), (2, .int (nI bN)), (3, .int i), (5, .int (nI ((rs r_28).2.length))), (7, .int (j_b (u_stq (rs r_19).1 (rs r_19).2 (rs r_28).2 kN q))), (8, .int (nI q))]) hx hb dX3_find_189 hl (k := 5) rfl (nI_add kN 1) (by decide) rfl (fun ls hl => ?_)
                            refine lv_goto (tgt := 90) hx hb dX3_find_192 (by decide) ?_
                            exact ih_90 (kN + 1) H locs ls ⟨(by omega), (hsr.trans ((j_srch_miss (P := u_st (rs r_19).1 (rs r_19).2 (rs r_28).2) (fun z => c_183 (u_stq_up z (by omega))) (by omega)).trans (by rw [show (rs r_19).2.length + 1 - (rs r_28).2.length - kN - 1 = (rs r_19).2.length + 1 - (rs r_28).2.length - (kN + 1) by omega]))), ⟨_, hW, hR⟩, hS, (lv_sub hl [1, 2, 3, 4, 5, 0] rfl)⟩ (by omega)
                          ·
                            have c_183 := j_bn c_183
                            refine lv_iload hx hb dX3_find_186 (lv_at hl 5 rfl) ?_
                            refine wd_iret hx hb hr hlocks hW hS dX3_find_188 ?_
                            have e9 : s_find (cd, pl, df, tx, kp, rs) (nI aN) (nI bN) i = (nI kN, 0, pl, df, tx, kp, rs) := by simp only [s_find, if_neg (not_or.mpr ⟨c_4, c_11⟩), s_w2, if_neg (not_not_intro c_49), hcl_a, hcl_b, hcl_i, htx_19, htx_28]; rw [hsr, j_srch_hit (P := u_st (rs r_19).1 (rs r_19).2 (rs r_28).2) (show u_st (rs r_19).1 (rs r_19).2 (rs r_28).2 kN from by have h9 := c_183; rw [show q = (rs r_28).2.length by omega] at h9; exact h9) (by omega)]; first | done | rfl
                            show _ = (s_find (cd, pl, df, tx, kp, rs) (nI aN) (nI bN) i).1 ∧ InvR cI m (s_find (cd, pl, df, tx, kp, rs) (nI aN) (nI bN) i).2 _
                            rw [e9]
                            exact ⟨rfl, A, fI, XD, XP, XU, XO, XB, hR, hdf, hit⟩
                        ·
                          have c_140 : ¬ ((rs r_28).2.length ≤ q) := fun q9 => absurd ((nI_leI (by omega) (by omega)).mpr q9) (show ¬ (nI ((rs r_28).2.length) ≤ nI q) from c_140)
                          refine lv_iload hx hb dX3_find_143 (lv_at hl 6 rfl) ?_
                          refine lv_if_eq (tgt := 181) hx hb dX3_find_145 (by decide) (fun c_145 => ?_) (fun c_145 => ?_)
                          ·
                            have c_145 := j_b0 c_145
                            refine lv_iload hx hb dX3_find_181 (lv_at hl 6 rfl) ?_
                            refine lv_if_eq (tgt := 189) hx hb dX3_find_183 (by decide) (fun c_183 => ?_) (fun c_183 => ?_)
                            ·
                              have c_183 := j_b0 c_183
                              refine lv_iinc (v := nI (kN + 1)) (lv' := [(6, .int (nI (kN + 1))), (0, .ref m), (1, .int (nI aN)), (2, .int (nI bN)), (3, .int i), (5, .int (nI ((rs r_28).2.length))), (7, .int (j_b (u_stq (rs r_19).1 (rs r_19).2 (rs r_28).2 kN q))), (8, .int (nI q))]) hx hb dX3_find_189 hl (k := 5) rfl (nI_add kN 1) (by decide) rfl (fun ls hl => ?_)
                              refine lv_goto (tgt := 90) hx hb dX3_find_192 (by decide) ?_
                              exact ih_90 (kN + 1) H locs ls ⟨(by omega), (hsr.trans ((j_srch_miss (P := u_st (rs r_19).1 (rs r_19).2 (rs r_28).2) (fun z => c_145 (u_stq_up z (by omega))) (by omega)).trans (by rw [show (rs r_19).2.length + 1 - (rs r_28).2.length - kN - 1 = (rs r_19).2.length + 1 - (rs r_28).2.length - (kN + 1) by omega]))), ⟨_, hW, hR⟩, hS, (lv_sub hl [1, 2, 3, 4, 5, 0] rfl)⟩ (by omega)
                            ·
                              exact absurd (j_bn c_183) c_145
                          ·
                            have c_145 := j_bn c_145
                            refine lv_aload_n hx hb dX3_find_148 rfl (lv_at hl 0 rfl) ?_
                            refine lv_iload_n hx hb dX3_find_149 rfl (lv_at hl 1 rfl) ?_
                            refine lv_iload hx hb dX3_find_150 (lv_at hl 5 rfl) ?_
                            refine lv_iload hx hb dX3_find_152 (lv_at hl 7 rfl) ?_
                            refine lv_iadd hx hb dX3_find_154 ?_
                            refine wd_topE (y := nI (kN + q)) (nI_add _ _) ?_
                            refine wd_callVi (As := [.int (nI aN), .int (nI (kN + q))]) (rest := []) (c2 := 0) (s2 := 0) ⟨hx, hb, hml, hown, hts⟩ (k_X3_item l D cI cT w_l136 H.size m A (kI kp) (fun r => (rs r).1) (fun r => nI (rs r).2.length) fI kp.length 0 pl XD XP XU XO XB tx rs aN r_19 (kN + q) hR (by omega) htx_19 hr24_19 hit (by omega)) (cwV 2 hts gX3_find_X3_item rfl rfl rfl (by decide +kernel) ⟨Nat.le_of_ble_eq_true rfl, Nat.le_of_ble_eq_true rfl⟩) gK_ok hK hW (wd_recv (ci := 3) hK.1 hW rfl hR.1) hS hA rfl hl.1 rfl (Nat.le_of_ble_eq_true rfl) dX3_find_155 ⟨Nat.le_of_ble_eq_true rfl, Nat.le_of_ble_eq_true rfl⟩ rfl rfl (fun r_155 w_155 H locs hp_155 hW hz hS => ?_)
                            obtain ⟨q_r, q_w⟩ := hp_155
                            subst r_155
                            subst w_155
                            refine lv_aload_n hx hb dX3_find_158 rfl (lv_at hl 0 rfl) ?_
                            refine lv_iload_n hx hb dX3_find_159 rfl (lv_at hl 2 rfl) ?_
                            refine lv_iload hx hb dX3_find_160 (lv_at hl 7 rfl) ?_
                            refine wd_callVi (As := [.int (nI bN), .int (nI q)]) (rest := [.int (lf (rs r_19).2 (kN + q))]) (c2 := 0) (s2 := 0) ⟨hx, hb, hml, hown, hts⟩ (k_X3_item l D cI cT w_l136 H.size m A (kI kp) (fun r => (rs r).1) (fun r => nI (rs r).2.length) fI kp.length 0 pl XD XP XU XO XB tx rs bN r_28 q hR (by omega) htx_28 hr24_28 hit (by omega)) (cwV 2 hts gX3_find_X3_item rfl rfl rfl (by decide +kernel) ⟨Nat.le_of_ble_eq_true rfl, Nat.le_of_ble_eq_true rfl⟩) gK_ok hK hW (wd_recv (ci := 3) hK.1 hW rfl hR.1) hS hA rfl hl.1 rfl (Nat.le_of_ble_eq_true rfl) dX3_find_162 ⟨Nat.le_of_ble_eq_true rfl, Nat.le_of_ble_eq_true rfl⟩ rfl rfl (fun r_162 w_162 H locs hp_162 hW hz hS => ?_)
                            obtain ⟨q_r, q_w⟩ := hp_162
                            subst r_162
                            subst w_162
                            refine lv_icmp_ne (tgt := 172) hx hb dX3_find_165 (by decide) (fun c_165 => ?_) (fun c_165 => ?_)
                            ·
                              refine lv_iconst (v := 0) hx hb dX3_find_172 (by decide) ?_
                              refine wd_topE (y := j_b (u_stq (rs r_19).1 (rs r_19).2 (rs r_28).2 kN (q + 1))) (j_bf (fun z => c_165 (z.2.2 q (by omega)))) ?_
                              refine lv_istore (lv' := [(7, .int (j_b (u_stq (rs r_19).1 (rs r_19).2 (rs r_28).2 kN (q + 1)))), (0, .ref m), (1, .int (nI aN)), (2, .int (nI bN)), (3, .int i), (5, .int (nI ((rs r_28).2.length))), (6, .int (nI kN)), (8, .int (nI q))]) hx hb dX3_find_173 hl (by decide) rfl (fun ls hl => ?_)
                              refine lv_iinc (v := nI (q + 1)) (lv' := [(8, .int (nI (q + 1))), (7, .int (j_b (u_stq (rs r_19).1 (rs r_19).2 (rs r_28).2 kN (q + 1)))), (0, .ref m), (1, .int (nI aN)), (2, .int (nI bN)), (3, .int i), (5, .int (nI ((rs r_28).2.length))), (6, .int (nI kN))]) hx hb dX3_find_175 hl (k := 7) rfl (nI_add q 1) (by decide) rfl (fun ls hl => ?_)
                              refine lv_goto (tgt := 136) hx hb dX3_find_178 (by decide) ?_
                              exact ih_136 (q + 1) H locs ls ⟨(by omega), ⟨_, hW, hR⟩, hS, (lv_sub hl [2, 3, 4, 5, 6, 7, 1, 0] rfl)⟩ (by omega)
                            ·
                              refine lv_iconst (v := 1) hx hb dX3_find_168 (by decide) ?_
                              refine wd_topE (y := j_b (u_stq (rs r_19).1 (rs r_19).2 (rs r_28).2 kN (q + 1))) (j_bt ⟨c_145.1, c_145.2.1, lt_s c_145.2.2 c_165⟩) ?_
                              refine lv_goto (tgt := 173) hx hb dX3_find_169 (by decide) ?_
                              refine lv_istore (lv' := [(7, .int (j_b (u_stq (rs r_19).1 (rs r_19).2 (rs r_28).2 kN (q + 1)))), (0, .ref m), (1, .int (nI aN)), (2, .int (nI bN)), (3, .int i), (5, .int (nI ((rs r_28).2.length))), (6, .int (nI kN)), (8, .int (nI q))]) hx hb dX3_find_173 hl (by decide) rfl (fun ls hl => ?_)
                              refine lv_iinc (v := nI (q + 1)) (lv' := [(8, .int (nI (q + 1))), (7, .int (j_b (u_stq (rs r_19).1 (rs r_19).2 (rs r_28).2 kN (q + 1)))), (0, .ref m), (1, .int (nI aN)), (2, .int (nI bN)), (3, .int i), (5, .int (nI ((rs r_28).2.length))), (6, .int (nI kN))]) hx hb dX3_find_175 hl (k := 7) rfl (nI_add q 1) (by decide) rfl (fun ls hl => ?_)
                              refine lv_goto (tgt := 136) hx hb dX3_find_178 (by decide) ?_
                              exact ih_136 (q + 1) H locs ls ⟨(by omega), ⟨_, hW, hR⟩, hS, (lv_sub hl [2, 3, 4, 5, 6, 7, 1, 0] rfl)⟩ (by omega)
                      ·
                        have c_110 := j_b0 c_110
                        refine lv_aload_n hx hb dX3_find_113 rfl (lv_at hl 0 rfl) ?_
                        refine lv_iload_n hx hb dX3_find_114 rfl (lv_at hl 1 rfl) ?_
                        refine lv_iload hx hb dX3_find_115 (lv_at hl 5 rfl) ?_
                        refine lv_iload hx hb dX3_find_117 (lv_at hl 4 rfl) ?_
                        refine lv_iadd hx hb dX3_find_119 ?_
                        refine wd_topE (y := nI (kN + (rs r_28).2.length)) (nI_add _ _) ?_
                        refine wd_callVi (As := [.int (nI aN), .int (nI (kN + (rs r_28).2.length))]) (rest := []) (c2 := 0) (s2 := 0) ⟨hx, hb, hml, hown, hts⟩ (k_X3_parts l D cI cT w_l90 H.size m A (kI kp) fI kp.length 0 pl XD XP XU XO XB tx rs aN r_19 (kN + (rs r_28).2.length) hR (by omega) htx_19 hr24_19 hlv hit (by omega)) (cwV 2 hts gX3_find_X3_parts rfl rfl rfl (by decide +kernel) ⟨Nat.le_of_ble_eq_true rfl, Nat.le_of_ble_eq_true rfl⟩) gK_ok hK hW (wd_recv (ci := 3) hK.1 hW rfl hR.1) hS hA rfl hl.1 rfl (Nat.le_of_ble_eq_true rfl) dX3_find_120 ⟨Nat.le_of_ble_eq_true rfl, Nat.le_of_ble_eq_true rfl⟩ rfl rfl (fun r_120 w_120 H locs hp_120 hW hz hS => ?_)
                        obtain ⟨q_r, q_w⟩ := hp_120
                        subst r_120
                        subst w_120
                        refine lv_if_ne (tgt := 130) hx hb dX3_find_123 (by decide) (fun c_123 => ?_) (fun c_123 => ?_)
                        ·
                          have c_123 := j_bn c_123
                          refine lv_iconst (v := 0) hx hb dX3_find_130 (by decide) ?_
                          refine wd_topE (y := j_b (u_stq (rs r_19).1 (rs r_19).2 (rs r_28).2 kN 0)) (j_bf (fun q => q.2.1 c_123)) ?_
                          refine lv_istore (lv' := [(7, .int (j_b (u_stq (rs r_19).1 (rs r_19).2 (rs r_28).2 kN 0))), (0, .ref m), (1, .int (nI aN)), (2, .int (nI bN)), (3, .int i), (5, .int (nI ((rs r_28).2.length))), (6, .int (nI kN))]) hx hb dX3_find_131 hl (by decide) rfl (fun ls hl => ?_)
                          refine lv_iconst (v := 0) hx hb dX3_find_133 (by decide) ?_
                          refine lv_istore (lv' := [(8, .int 0), (7, .int (j_b (u_stq (rs r_19).1 (rs r_19).2 (rs r_28).2 kN 0))), (0, .ref m), (1, .int (nI aN)), (2, .int (nI bN)), (3, .int i), (5, .int (nI ((rs r_28).2.length))), (6, .int (nI kN))]) hx hb dX3_find_134 hl (by decide) rfl (fun ls hl => ?_)
                          refine wd_loop1 (fun (q : Nat) (H : Heap) (locs : List Loc) (ls : Array Slot) => (q ≤ (rs r_28).2.length) ∧ (∃ w', wd_P D vwCl (wd_A w sg.heap.size) w' H ∧ rW cI m A (fun t => oI (tx t)) (kI kp) (fun r => (rs r).1) (fun r => nI (rs r).2.length) fI kp.length 0 pl XD XP XU XO XB w') ∧ va_S (wd_A w sg.heap.size) sg.heap H locs ∧ lv_has ls 9 [(0, .ref m), (1, .int (nI aN)), (2, .int (nI bN)), (3, .int i), (5, .int (nI ((rs r_28).2.length))), (6, .int (nI kN)), (7, .int (j_b (u_stq (rs r_19).1 (rs r_19).2 (rs r_28).2 kN q))), (8, .int (nI q))]) (fun (q : Nat) => (rs r_28).2.length - q) 0 ⟨(by omega), ⟨_, hW, hR⟩, hS, (lv_sub hl [2, 3, 4, 5, 6, 7, 1, 0] rfl)⟩ (fun q H locs ls hI ih_136 => ?_)
                          obtain ⟨hq, ⟨w_l136, hW, hR⟩, hS, hl⟩ := hI
                          refine lv_iload hx hb dX3_find_136 (lv_at hl 7 rfl) ?_
                          refine lv_iload hx hb dX3_find_138 (lv_at hl 4 rfl) ?_
                          refine lv_icmp_ge (tgt := 181) hx hb dX3_find_140 (by decide) (fun c_140 => ?_) (fun c_140 => ?_)
                          ·
                            have c_140 : (rs r_28).2.length ≤ q := (nI_leI (by omega) (by omega)).mp (show (nI ((rs r_28).2.length) ≤ nI q) from c_140)
                            refine lv_iload hx hb dX3_find_181 (lv_at hl 6 rfl) ?_
                            refine lv_if_eq (tgt := 189) hx hb dX3_find_183 (by decide) (fun c_183 => ?_) (fun c_183 => ?_)
                            ·
                              have c_183 := j_b0 c_183
                              refine lv_iinc (v := nI (kN + 1)) (lv' := [(6, .int (nI (kN + 1))), (0, .ref m), (1, .int (nI aN)), (2, .int (nI bN)), (3, .int i), (5, .int (nI ((rs r_28).2.length))), (7, .int (j_b (u_stq (rs r_19).1 (rs r_19).2 (rs r_28).2 kN q))), (8, .int (nI q))]) hx hb dX3_find_189 hl (k := 5) rfl (nI_add kN 1) (by decide) rfl (fun ls hl => ?_)
                              refine lv_goto (tgt := 90) hx hb dX3_find_192 (by decide) ?_
                              exact ih_90 (kN + 1) H locs ls ⟨(by omega), (hsr.trans ((j_srch_miss (P := u_st (rs r_19).1 (rs r_19).2 (rs r_28).2) (fun z => c_183 (u_stq_up z (by omega))) (by omega)).trans (by rw [show (rs r_19).2.length + 1 - (rs r_28).2.length - kN - 1 = (rs r_19).2.length + 1 - (rs r_28).2.length - (kN + 1) by omega]))), ⟨_, hW, hR⟩, hS, (lv_sub hl [1, 2, 3, 4, 5, 0] rfl)⟩ (by omega)
                            ·
                              have c_183 := j_bn c_183
                              refine lv_iload hx hb dX3_find_186 (lv_at hl 5 rfl) ?_
                              refine wd_iret hx hb hr hlocks hW hS dX3_find_188 ?_
                              have e9 : s_find (cd, pl, df, tx, kp, rs) (nI aN) (nI bN) i = (nI kN, 0, pl, df, tx, kp, rs) := by simp only [s_find, if_neg (not_or.mpr ⟨c_4, c_11⟩), s_w2, if_neg (not_not_intro c_49), hcl_a, hcl_b, hcl_i, htx_19, htx_28]; rw [hsr, j_srch_hit (P := u_st (rs r_19).1 (rs r_19).2 (rs r_28).2) (show u_st (rs r_19).1 (rs r_19).2 (rs r_28).2 kN from by have h9 := c_183; rw [show q = (rs r_28).2.length by omega] at h9; exact h9) (by omega)]; first | done | rfl
                              show _ = (s_find (cd, pl, df, tx, kp, rs) (nI aN) (nI bN) i).1 ∧ InvR cI m (s_find (cd, pl, df, tx, kp, rs) (nI aN) (nI bN) i).2 _
                              rw [e9]
                              exact ⟨rfl, A, fI, XD, XP, XU, XO, XB, hR, hdf, hit⟩
                          ·
                            have c_140 : ¬ ((rs r_28).2.length ≤ q) := fun q9 => absurd ((nI_leI (by omega) (by omega)).mpr q9) (show ¬ (nI ((rs r_28).2.length) ≤ nI q) from c_140)
                            refine lv_iload hx hb dX3_find_143 (lv_at hl 6 rfl) ?_
                            refine lv_if_eq (tgt := 181) hx hb dX3_find_145 (by decide) (fun c_145 => ?_) (fun c_145 => ?_)
                            ·
                              have c_145 := j_b0 c_145
                              refine lv_iload hx hb dX3_find_181 (lv_at hl 6 rfl) ?_
                              refine lv_if_eq (tgt := 189) hx hb dX3_find_183 (by decide) (fun c_183 => ?_) (fun c_183 => ?_)
                              ·
                                have c_183 := j_b0 c_183
                                refine lv_iinc (v := nI (kN + 1)) (lv' := [(6, .int (nI (kN + 1))), (0, .ref m), (1, .int (nI aN)), (2, .int (nI bN)), (3, .int i), (5, .int (nI ((rs r_28).2.length))), (7, .int (j_b (u_stq (rs r_19).1 (rs r_19).2 (rs r_28).2 kN q))), (8, .int (nI q))]) hx hb dX3_find_189 hl (k := 5) rfl (nI_add kN 1) (by decide) rfl (fun ls hl => ?_)
                                refine lv_goto (tgt := 90) hx hb dX3_find_192 (by decide) ?_
                                exact ih_90 (kN + 1) H locs ls ⟨(by omega), (hsr.trans ((j_srch_miss (P := u_st (rs r_19).1 (rs r_19).2 (rs r_28).2) (fun z => c_145 (u_stq_up z (by omega))) (by omega)).trans (by rw [show (rs r_19).2.length + 1 - (rs r_28).2.length - kN - 1 = (rs r_19).2.length + 1 - (rs r_28).2.length - (kN + 1) by omega]))), ⟨_, hW, hR⟩, hS, (lv_sub hl [1, 2, 3, 4, 5, 0] rfl)⟩ (by omega)
                              ·
                                exact absurd (j_bn c_183) c_145
                            ·
                              have c_145 := j_bn c_145
                              refine lv_aload_n hx hb dX3_find_148 rfl (lv_at hl 0 rfl) ?_
                              refine lv_iload_n hx hb dX3_find_149 rfl (lv_at hl 1 rfl) ?_
                              refine lv_iload hx hb dX3_find_150 (lv_at hl 5 rfl) ?_
                              refine lv_iload hx hb dX3_find_152 (lv_at hl 7 rfl) ?_
                              refine lv_iadd hx hb dX3_find_154 ?_
                              refine wd_topE (y := nI (kN + q)) (nI_add _ _) ?_
                              refine wd_callVi (As := [.int (nI aN), .int (nI (kN + q))]) (rest := []) (c2 := 0) (s2 := 0) ⟨hx, hb, hml, hown, hts⟩ (k_X3_item l D cI cT w_l136 H.size m A (kI kp) (fun r => (rs r).1) (fun r => nI (rs r).2.length) fI kp.length 0 pl XD XP XU XO XB tx rs aN r_19 (kN + q) hR (by omega) htx_19 hr24_19 hit (by omega)) (cwV 2 hts gX3_find_X3_item rfl rfl rfl (by decide +kernel) ⟨Nat.le_of_ble_eq_true rfl, Nat.le_of_ble_eq_true rfl⟩) gK_ok hK hW (wd_recv (ci := 3) hK.1 hW rfl hR.1) hS hA rfl hl.1 rfl (Nat.le_of_ble_eq_true rfl) dX3_find_155 ⟨Nat.le_of_ble_eq_true rfl, Nat.le_of_ble_eq_true rfl⟩ rfl rfl (fun r_155 w_155 H locs hp_155 hW hz hS => ?_)
                              obtain ⟨q_r, q_w⟩ := hp_155
                              subst r_155
                              subst w_155
                              refine lv_aload_n hx hb dX3_find_158 rfl (lv_at hl 0 rfl) ?_
                              refine lv_iload_n hx hb dX3_find_159 rfl (lv_at hl 2 rfl) ?_
                              refine lv_iload hx hb dX3_find_160 (lv_at hl 7 rfl) ?_
                              refine wd_callVi (As := [.int (nI bN), .int (nI q)]) (rest := [.int (lf (rs r_19).2 (kN + q))]) (c2 := 0) (s2 := 0) ⟨hx, hb, hml, hown, hts⟩ (k_X3_item l D cI cT w_l136 H.size m A (kI kp) (fun r => (rs r).1) (fun r => nI (rs r).2.length) fI kp.length 0 pl XD XP XU XO XB tx rs bN r_28 q hR (by omega) htx_28 hr24_28 hit (by omega)) (cwV 2 hts gX3_find_X3_item rfl rfl rfl (by decide +kernel) ⟨Nat.le_of_ble_eq_true rfl, Nat.le_of_ble_eq_true rfl⟩) gK_ok hK hW (wd_recv (ci := 3) hK.1 hW rfl hR.1) hS hA rfl hl.1 rfl (Nat.le_of_ble_eq_true rfl) dX3_find_162 ⟨Nat.le_of_ble_eq_true rfl, Nat.le_of_ble_eq_true rfl⟩ rfl rfl (fun r_162 w_162 H locs hp_162 hW hz hS => ?_)
                              obtain ⟨q_r, q_w⟩ := hp_162
                              subst r_162
                              subst w_162
                              refine lv_icmp_ne (tgt := 172) hx hb dX3_find_165 (by decide) (fun c_165 => ?_) (fun c_165 => ?_)
                              ·
                                refine lv_iconst (v := 0) hx hb dX3_find_172 (by decide) ?_
                                refine wd_topE (y := j_b (u_stq (rs r_19).1 (rs r_19).2 (rs r_28).2 kN (q + 1))) (j_bf (fun z => c_165 (z.2.2 q (by omega)))) ?_
                                refine lv_istore (lv' := [(7, .int (j_b (u_stq (rs r_19).1 (rs r_19).2 (rs r_28).2 kN (q + 1)))), (0, .ref m), (1, .int (nI aN)), (2, .int (nI bN)), (3, .int i), (5, .int (nI ((rs r_28).2.length))), (6, .int (nI kN)), (8, .int (nI q))]) hx hb dX3_find_173 hl (by decide) rfl (fun ls hl => ?_)
                                refine lv_iinc (v := nI (q + 1)) (lv' := [(8, .int (nI (q + 1))), (7, .int (j_b (u_stq (rs r_19).1 (rs r_19).2 (rs r_28).2 kN (q + 1)))), (0, .ref m), (1, .int (nI aN)), (2, .int (nI bN)), (3, .int i), (5, .int (nI ((rs r_28).2.length))), (6, .int (nI kN))]) hx hb dX3_find_175 hl (k := 7) rfl (nI_add q 1) (by decide) rfl (fun ls hl => ?_)
                                refine lv_goto (tgt := 136) hx hb dX3_find_178 (by decide) ?_
                                exact ih_136 (q + 1) H locs ls ⟨(by omega), ⟨_, hW, hR⟩, hS, (lv_sub hl [2, 3, 4, 5, 6, 7, 1, 0] rfl)⟩ (by omega)
                              ·
                                refine lv_iconst (v := 1) hx hb dX3_find_168 (by decide) ?_
                                refine wd_topE (y := j_b (u_stq (rs r_19).1 (rs r_19).2 (rs r_28).2 kN (q + 1))) (j_bt ⟨c_145.1, c_145.2.1, lt_s c_145.2.2 c_165⟩) ?_
                                refine lv_goto (tgt := 173) hx hb dX3_find_169 (by decide) ?_
                                refine lv_istore (lv' := [(7, .int (j_b (u_stq (rs r_19).1 (rs r_19).2 (rs r_28).2 kN (q + 1)))), (0, .ref m), (1, .int (nI aN)), (2, .int (nI bN)), (3, .int i), (5, .int (nI ((rs r_28).2.length))), (6, .int (nI kN)), (8, .int (nI q))]) hx hb dX3_find_173 hl (by decide) rfl (fun ls hl => ?_)
                                refine lv_iinc (v := nI (q + 1)) (lv' := [(8, .int (nI (q + 1))), (7, .int (j_b (u_stq (rs r_19).1 (rs r_19).2 (rs r_28).2 kN (q + 1)))), (0, .ref m), (1, .int (nI aN)), (2, .int (nI bN)), (3, .int i), (5, .int (nI ((rs r_28).2.length))), (6, .int (nI kN))]) hx hb dX3_find_175 hl (k := 7) rfl (nI_add q 1) (by decide) rfl (fun ls hl => ?_)
                                refine lv_goto (tgt := 136) hx hb dX3_find_178 (by decide) ?_
                                exact ih_136 (q + 1) H locs ls ⟨(by omega), ⟨_, hW, hR⟩, hS, (lv_sub hl [2, 3, 4, 5, 6, 7, 1, 0] rfl)⟩ (by omega)
                        ·
                          have c_123 := j_b0 c_123
                          refine lv_iconst (v := 1) hx hb dX3_find_126 (by decide) ?_
                          refine wd_topE (y := j_b (u_stq (rs r_19).1 (rs r_19).2 (rs r_28).2 kN 0)) (j_bt ⟨c_110, c_123, fun m hm => absurd hm (Nat.not_lt_zero m)⟩) ?_
                          refine lv_goto (tgt := 131) hx hb dX3_find_127 (by decide) ?_
                          refine lv_istore (lv' := [(7, .int (j_b (u_stq (rs r_19).1 (rs r_19).2 (rs r_28).2 kN 0))), (0, .ref m), (1, .int (nI aN)), (2, .int (nI bN)), (3, .int i), (5, .int (nI ((rs r_28).2.length))), (6, .int (nI kN))]) hx hb dX3_find_131 hl (by decide) rfl (fun ls hl => ?_)
                          refine lv_iconst (v := 0) hx hb dX3_find_133 (by decide) ?_
                          refine lv_istore (lv' := [(8, .int 0), (7, .int (j_b (u_stq (rs r_19).1 (rs r_19).2 (rs r_28).2 kN 0))), (0, .ref m), (1, .int (nI aN)), (2, .int (nI bN)), (3, .int i), (5, .int (nI ((rs r_28).2.length))), (6, .int (nI kN))]) hx hb dX3_find_134 hl (by decide) rfl (fun ls hl => ?_)
                          refine wd_loop1 (fun (q : Nat) (H : Heap) (locs : List Loc) (ls : Array Slot) => (q ≤ (rs r_28).2.length) ∧ (∃ w', wd_P D vwCl (wd_A w sg.heap.size) w' H ∧ rW cI m A (fun t => oI (tx t)) (kI kp) (fun r => (rs r).1) (fun r => nI (rs r).2.length) fI kp.length 0 pl XD XP XU XO XB w') ∧ va_S (wd_A w sg.heap.size) sg.heap H locs ∧ lv_has ls 9 [(0, .ref m), (1, .int (nI aN)), (2, .int (nI bN)), (3, .int i), (5, .int (nI ((rs r_28).2.length))), (6, .int (nI kN)), (7, .int (j_b (u_stq (rs r_19).1 (rs r_19).2 (rs r_28).2 kN q))), (8, .int (nI q))]) (fun (q : Nat) => (rs r_28).2.length - q) 0 ⟨(by omega), ⟨_, hW, hR⟩, hS, (lv_sub hl [2, 3, 4, 5, 6, 7, 1, 0] rfl)⟩ (fun q H locs ls hI ih_136 => ?_)
                          obtain ⟨hq, ⟨w_l136, hW, hR⟩, hS, hl⟩ := hI
                          refine lv_iload hx hb dX3_find_136 (lv_at hl 7 rfl) ?_
                          refine lv_iload hx hb dX3_find_138 (lv_at hl 4 rfl) ?_
                          refine lv_icmp_ge (tgt := 181) hx hb dX3_find_140 (by decide) (fun c_140 => ?_) (fun c_140 => ?_)
                          ·
                            have c_140 : (rs r_28).2.length ≤ q := (nI_leI (by omega) (by omega)).mp (show (nI ((rs r_28).2.length) ≤ nI q) from c_140)
                            refine lv_iload hx hb dX3_find_181 (lv_at hl 6 rfl) ?_
                            refine lv_if_eq (tgt := 189) hx hb dX3_find_183 (by decide) (fun c_183 => ?_) (fun c_183 => ?_)
                            ·
                              have c_183 := j_b0 c_183
                              refine lv_iinc (v := nI (kN + 1)) (lv' := [(6, .int (nI (kN + 1))), (0, .ref m), (1, .int (nI aN)), (2, .int (nI bN)), (3, .int i), (5, .int (nI ((rs r_28).2.length))), (7, .int (j_b (u_stq (rs r_19).1 (rs r_19).2 (rs r_28).2 kN q))), (8, .int (nI q))]) hx hb dX3_find_189 hl (k := 5) rfl (nI_add kN 1) (by decide) rfl (fun ls hl => ?_)
                              refine lv_goto (tgt := 90) hx hb dX3_find_192 (by decide) ?_
                              exact ih_90 (kN + 1) H locs ls ⟨(by omega), (hsr.trans ((j_srch_miss (P := u_st (rs r_19).1 (rs r_19).2 (rs r_28).2) (fun z => c_183 (u_stq_up z (by omega))) (by omega)).trans (by rw [show (rs r_19).2.length + 1 - (rs r_28).2.length - kN - 1 = (rs r_19).2.length + 1 - (rs r_28).2.length - (kN + 1) by omega]))), ⟨_, hW, hR⟩, hS, (lv_sub hl [1, 2, 3, 4, 5, 0] rfl)⟩ (by omega)
                            ·
                              have c_183 := j_bn c_183
                              refine lv_iload hx hb dX3_find_186 (lv_at hl 5 rfl) ?_
                              refine wd_iret hx hb hr hlocks hW hS dX3_find_188 ?_
                              have e9 : s_find (cd, pl, df, tx, kp, rs) (nI aN) (nI bN) i = (nI kN, 0, pl, df, tx, kp, rs) := by simp only [s_find, if_neg (not_or.mpr ⟨c_4, c_11⟩), s_w2, if_neg (not_not_intro c_49), hcl_a, hcl_b, hcl_i, htx_19, htx_28]; rw [hsr, j_srch_hit (P := u_st (rs r_19).1 (rs r_19).2 (rs r_28).2) (show u_st (rs r_19).1 (rs r_19).2 (rs r_28).2 kN from by have h9 := c_183; rw [show q = (rs r_28).2.length by omega] at h9; exact h9) (by omega)]; first | done | rfl
                              show _ = (s_find (cd, pl, df, tx, kp, rs) (nI aN) (nI bN) i).1 ∧ InvR cI m (s_find (cd, pl, df, tx, kp, rs) (nI aN) (nI bN) i).2 _
                              rw [e9]
                              exact ⟨rfl, A, fI, XD, XP, XU, XO, XB, hR, hdf, hit⟩
                          ·
                            have c_140 : ¬ ((rs r_28).2.length ≤ q) := fun q9 => absurd ((nI_leI (by omega) (by omega)).mpr q9) (show ¬ (nI ((rs r_28).2.length) ≤ nI q) from c_140)
                            refine lv_iload hx hb dX3_find_143 (lv_at hl 6 rfl) ?_
                            refine lv_if_eq (tgt := 181) hx hb dX3_find_145 (by decide) (fun c_145 => ?_) (fun c_145 => ?_)
                            ·
                              have c_145 := j_b0 c_145
                              refine lv_iload hx hb dX3_find_181 (lv_at hl 6 rfl) ?_
                              refine lv_if_eq (tgt := 189) hx hb dX3_find_183 (by decide) (fun c_183 => ?_) (fun c_183 => ?_)
                              ·
                                have c_183 := j_b0 c_183
                                refine lv_iinc (v := nI (kN + 1)) (lv' := [(6, .int (nI (kN + 1))), (0, .ref m), (1, .int (nI aN)), (2, .int (nI bN)), (3, .int i), (5, .int (nI ((rs r_28).2.length))), (7, .int (j_b (u_stq (rs r_19).1 (rs r_19).2 (rs r_28).2 kN q))), (8, .int (nI q))]) hx hb dX3_find_189 hl (k := 5) rfl (nI_add kN 1) (by decide) rfl (fun ls hl => ?_)
                                refine lv_goto (tgt := 90) hx hb dX3_find_192 (by decide) ?_
                                exact ih_90 (kN + 1) H locs ls ⟨(by omega), (hsr.trans ((j_srch_miss (P := u_st (rs r_19).1 (rs r_19).2 (rs r_28).2) (fun z => c_145 (u_stq_up z (by omega))) (by omega)).trans (by rw [show (rs r_19).2.length + 1 - (rs r_28).2.length - kN - 1 = (rs r_19).2.length + 1 - (rs r_28).2.length - (kN + 1) by omega]))), ⟨_, hW, hR⟩, hS, (lv_sub hl [1, 2, 3, 4, 5, 0] rfl)⟩ (by omega)
                              ·
                                exact absurd (j_bn c_183) c_145
                            ·
                              have c_145 := j_bn c_145
                              refine lv_aload_n hx hb dX3_find_148 rfl (lv_at hl 0 rfl) ?_
                              refine lv_iload_n hx hb dX3_find_149 rfl (lv_at hl 1 rfl) ?_
                              refine lv_iload hx hb dX3_find_150 (lv_at hl 5 rfl) ?_
                              refine lv_iload hx hb dX3_find_152 (lv_at hl 7 rfl) ?_
                              refine lv_iadd hx hb dX3_find_154 ?_
                              refine wd_topE (y := nI (kN + q)) (nI_add _ _) ?_
                              refine wd_callVi (As := [.int (nI aN), .int (nI (kN + q))]) (rest := []) (c2 := 0) (s2 := 0) ⟨hx, hb, hml, hown, hts⟩ (k_X3_item l D cI cT w_l136 H.size m A (kI kp) (fun r => (rs r).1) (fun r => nI (rs r).2.length) fI kp.length 0 pl XD XP XU XO XB tx rs aN r_19 (kN + q) hR (by omega) htx_19 hr24_19 hit (by omega)) (cwV 2 hts gX3_find_X3_item rfl rfl rfl (by decide +kernel) ⟨Nat.le_of_ble_eq_true rfl, Nat.le_of_ble_eq_true rfl⟩) gK_ok hK hW (wd_recv (ci := 3) hK.1 hW rfl hR.1) hS hA rfl hl.1 rfl (Nat.le_of_ble_eq_true rfl) dX3_find_155 ⟨Nat.le_of_ble_eq_true rfl, Nat.le_of_ble_eq_true rfl⟩ rfl rfl (fun r_155 w_155 H locs hp_155 hW hz hS => ?_)
                              obtain ⟨q_r, q_w⟩ := hp_155
                              subst r_155
                              subst w_155
                              refine lv_aload_n hx hb dX3_find_158 rfl (lv_at hl 0 rfl) ?_
                              refine lv_iload_n hx hb dX3_find_159 rfl (lv_at hl 2 rfl) ?_
                              refine lv_iload hx hb dX3_find_160 (lv_at hl 7 rfl) ?_
                              refine wd_callVi (As := [.int (nI bN), .int (nI q)]) (rest := [.int (lf (rs r_19).2 (kN + q))]) (c2 := 0) (s2 := 0) ⟨hx, hb, hml, hown, hts⟩ (k_X3_item l D cI cT w_l136 H.size m A (kI kp) (fun r => (rs r).1) (fun r => nI (rs r).2.length) fI kp.length 0 pl XD XP XU XO XB tx rs bN r_28 q hR (by omega) htx_28 hr24_28 hit (by omega)) (cwV 2 hts gX3_find_X3_item rfl rfl rfl (by decide +kernel) ⟨Nat.le_of_ble_eq_true rfl, Nat.le_of_ble_eq_true rfl⟩) gK_ok hK hW (wd_recv (ci := 3) hK.1 hW rfl hR.1) hS hA rfl hl.1 rfl (Nat.le_of_ble_eq_true rfl) dX3_find_162 ⟨Nat.le_of_ble_eq_true rfl, Nat.le_of_ble_eq_true rfl⟩ rfl rfl (fun r_162 w_162 H locs hp_162 hW hz hS => ?_)
                              obtain ⟨q_r, q_w⟩ := hp_162
                              subst r_162
                              subst w_162
                              refine lv_icmp_ne (tgt := 172) hx hb dX3_find_165 (by decide) (fun c_165 => ?_) (fun c_165 => ?_)
                              ·
                                refine lv_iconst (v := 0) hx hb dX3_find_172 (by decide) ?_
                                refine wd_topE (y := j_b (u_stq (rs r_19).1 (rs r_19).2 (rs r_28).2 kN (q + 1))) (j_bf (fun z => c_165 (z.2.2 q (by omega)))) ?_
                                refine lv_istore (lv' := [(7, .int (j_b (u_stq (rs r_19).1 (rs r_19).2 (rs r_28).2 kN (q + 1)))), (0, .ref m), (1, .int (nI aN)), (2, .int (nI bN)), (3, .int i), (5, .int (nI ((rs r_28).2.length))), (6, .int (nI kN)), (8, .int (nI q))]) hx hb dX3_find_173 hl (by decide) rfl (fun ls hl => ?_)
                                refine lv_iinc (v := nI (q + 1)) (lv' := [(8, .int (nI (q + 1))), (7, .int (j_b (u_stq (rs r_19).1 (rs r_19).2 (rs r_28).2 kN (q + 1)))), (0, .ref m), (1, .int (nI aN)), (2, .int (nI bN)), (3, .int i), (5, .int (nI ((rs r_28).2.length))), (6, .int (nI kN))]) hx hb dX3_find_175 hl (k := 7) rfl (nI_add q 1) (by decide) rfl (fun ls hl => ?_)
                                refine lv_goto (tgt := 136) hx hb dX3_find_178 (by decide) ?_
                                exact ih_136 (q + 1) H locs ls ⟨(by omega), ⟨_, hW, hR⟩, hS, (lv_sub hl [2, 3, 4, 5, 6, 7, 1, 0] rfl)⟩ (by omega)
                              ·
                                refine lv_iconst (v := 1) hx hb dX3_find_168 (by decide) ?_
                                refine wd_topE (y := j_b (u_stq (rs r_19).1 (rs r_19).2 (rs r_28).2 kN (q + 1))) (j_bt ⟨c_145.1, c_145.2.1, lt_s c_145.2.2 c_165⟩) ?_
                                refine lv_goto (tgt := 173) hx hb dX3_find_169 (by decide) ?_
                                refine lv_istore (lv' := [(7, .int (j_b (u_stq (rs r_19).1 (rs r_19).2 (rs r_28).2 kN (q + 1)))), (0, .ref m), (1, .int (nI aN)), (2, .int (nI bN)), (3, .int i), (5, .int (nI ((rs r_28).2.length))), (6, .int (nI kN)), (8, .int (nI q))]) hx hb dX3_find_173 hl (by decide) rfl (fun ls hl => ?_)
                                refine lv_iinc (v := nI (q + 1)) (lv' := [(8, .int (nI (q + 1))), (7, .int (j_b (u_stq (rs r_19).1 (rs r_19).2 (rs r_28).2 kN (q + 1)))), (0, .ref m), (1, .int (nI aN)), (2, .int (nI bN)), (3, .int i), (5, .int (nI ((rs r_28).2.length))), (6, .int (nI kN))]) hx hb dX3_find_175 hl (k := 7) rfl (nI_add q 1) (by decide) rfl (fun ls hl => ?_)
                                refine lv_goto (tgt := 136) hx hb dX3_find_178 (by decide) ?_
                                exact ih_136 (q + 1) H locs ls ⟨(by omega), ⟨_, hW, hR⟩, hS, (lv_sub hl [2, 3, 4, 5, 6, 7, 1, 0] rfl)⟩ (by omega)
                ·
                  exact absurd rfl c_67
              ·
                refine lv_iconst (v := 2) hx hb dX3_find_52 (by decide) ?_
                refine lv_goto (tgt := 57) hx hb dX3_find_53 (by decide) ?_
                refine lv_istore (lv' := [(4, .int 2), (0, .ref m), (1, .int (nI aN)), (2, .int (nI bN)), (3, .int i)]) hx hb dX3_find_57 hl (by decide) rfl (fun ls hl => ?_)
                refine lv_aload_n hx hb dX3_find_59 rfl (lv_at hl 1 rfl) ?_
                refine lv_iload hx hb dX3_find_60 (lv_at hl 0 rfl) ?_
                refine wd_put (ci := 3) (v := .int 2) (ty := .int) (C := RX3) (T := TX3) (N := 18) hx hb hts (by decide +kernel) tyX3 tyX3_ok nmX3 hown hK.1 hW hS hR.1 rfl 8 (by decide) (hts (.fieldLink RX3 53 "CharRowsModel" "code" "I") (by decide +kernel)) (fun _ h9 => h9) rfl (by decide +kernel) rfl rfl (Nat.le_of_ble_eq_true rfl) dX3_find_62 (fun H locs hW hS => ?_)
                obtain ⟨w_v4, hW, hR⟩ : ∃ w', wd_P D vwCl (wd_A w sg.heap.size) w' H ∧ rW cI m A (fun t => oI (tx t)) (kI kp) (fun r => (rs r).1) (fun r => nI (rs r).2.length) fI kp.length 2 pl XD XP XU XO XB w' := ⟨_, hW, hR.scd 2⟩
                refine lv_iload hx hb dX3_find_65 (lv_at hl 0 rfl) ?_
                refine lv_if_eq (tgt := 72) hx hb dX3_find_67 (by decide) (fun c_67 => ?_) (fun c_67 => ?_)
                ·
                  exact absurd c_67 (by decide)
                ·
                  refine lv_iconst (v := (-1)) hx hb dX3_find_70 (by decide) ?_
                  refine wd_iret hx hb hr hlocks hW hS dX3_find_71 ?_
                  have e9 : s_find (cd, pl, df, tx, kp, rs) (nI aN) (nI bN) i = ((-1), 2, pl, df, tx, kp, rs) := by simp only [s_find, if_neg (not_or.mpr ⟨c_4, c_11⟩), s_w2, if_pos c_49, hcl_a, hcl_b, htx_19, htx_28]
                  show _ = (s_find (cd, pl, df, tx, kp, rs) (nI aN) (nI bN) i).1 ∧ InvR cI m (s_find (cd, pl, df, tx, kp, rs) (nI aN) (nI bN) i).2 _
                  rw [e9]
                  exact ⟨rfl, A, fI, XD, XP, XU, XO, XB, hR, hdf, hit⟩
            ·
              exact absurd c_32 (hok _ _ htx_28).nm1
    ·
      have c_11 := nt_of (j_b0 c_11)
      refine lv_ldc (v := (-2000000001)) hx hb hown (hts (.constant RX3 107 (-2000000001)) (by decide +kernel)) dX3_find_14 ?_
      refine wd_iret hx hb hr hlocks hW hS dX3_find_16 ?_
      have e9 : s_find (cd, pl, df, tx, kp, rs) (nI aN) b i = ((-2000000001), cd, pl, df, tx, kp, rs) := by simp only [s_find, if_pos (Or.inr c_11), s_w2, hcl_a]
      show _ = (s_find (cd, pl, df, tx, kp, rs) (nI aN) b i).1 ∧ InvR cI m (s_find (cd, pl, df, tx, kp, rs) (nI aN) b i).2 _
      rw [e9]
      exact ⟨rfl, A, fI, XD, XP, XU, XO, XB, hR, hdf, hit⟩
