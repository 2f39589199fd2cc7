set_option maxHeartbeats 4000000 in
set_option maxRecDepth 100000 in
theorem k_X2_pointFrom (l : Launch) (D : va_G) (cI cT : ClassId) (w : Wd) (sz : Nat) (a : Nat) (len : Nat) (g : Nat → Int32) (k : Nat) (ha : w a = some (e_ints cI len g)) (hlen : len ≤ 5760) (hk31 : k < 2 ^ 31) : wd_Mi l D vwCl (gK D cI cT) yX2_pointFrom wsX2_pointFrom (wd_rm 2 0 0) [.ref a, .int (nI k)] w sz (fun r w' => r = j_pf g len k ∧ w' = w) := by
  refine wd_met (cc := cX2_pointFrom) (maxL := 5) (ret := (some .int)) (by decide) rfl (Nat.le_of_ble_eq_true rfl) ?_
  intro pg ev sg mi bl mt cde ls C0 hsz hK hW hl
  obtain ⟨hx, hb, hr, hml, hown, hts, hlocks, hnm⟩ := C0
  subst hsz
  have hown : sg.vm.findClass RX2 = some mi.cls := hown
  have hS : va_S (wd_A w sg.heap.size) sg.heap sg.heap [] := va_S.rf
  have hA : ∀ q, sg.heap.size ≤ q → wd_A w sg.heap.size q := fun q h => Or.inr h
  have hl : lv_has ls 5 [(0, .ref a), (1, .int (nI k))] := hl
  refine lv_iload_n hx hb dX2_pointFrom_0 rfl (lv_at hl 1 rfl) ?_
  refine lv_if_lt (tgt := 10) hx hb dX2_pointFrom_1 (by decide) (fun c_1 => ?_) (fun c_1 => ?_)
  ·
    exact absurd c_1 (nI_pos (by omega))
  ·
    have c_1 : ¬ (k < 0) := fun q9 => absurd ((nI_ltI (by omega) (by omega)).mpr q9) (show ¬ (nI k < nI 0) from c_1)
    refine lv_iload_n hx hb dX2_pointFrom_4 rfl (lv_at hl 1 rfl) ?_
    refine lv_aload_n hx hb dX2_pointFrom_5 rfl (lv_at hl 0 rfl) ?_
    refine wd_alen hx hb hK.1 hW 0 ha rfl dX2_pointFrom_6 ?_
    refine lv_icmp_lt (tgt := 12) hx hb dX2_pointFrom_7 (by decide) (fun c_7 => ?_) (fun c_7 => ?_)
    ·
      have c_7 : k < len := (nI_ltI (by omega) (by omega)).mp (show (nI k < nI len) from c_7)
      refine lv_aload_n hx hb dX2_pointFrom_12 rfl (lv_at hl 0 rfl) ?_
      refine lv_iload_n hx hb dX2_pointFrom_13 rfl (lv_at hl 1 rfl) ?_
      refine wd_iald hx hb hK.1 hW 0 ha rfl (vp_in_nI (by omega) (by omega)) dX2_pointFrom_14 ?_
      refine wd_topE (y := g k) (by rw [nI_clamp (by omega)]) ?_
      refine wd_callSi (As := [.int (g k)]) (rest := []) (c2 := 0) (s2 := 0) ⟨hx, hb, hml, hown, hts⟩ (k_X2_byteCount l D cI cT w sg.heap.size (g k) ) (va_cwS 1 hts gX2_pointFrom_X2_byteCount rfl rfl rfl (by decide +kernel) ⟨Nat.le_of_ble_eq_true rfl, Nat.le_of_ble_eq_true rfl⟩) gK_ok hK hW hS hA rfl hl.1 rfl (Nat.le_of_ble_eq_true rfl) dX2_pointFrom_15 ⟨Nat.le_of_ble_eq_true rfl, Nat.le_of_ble_eq_true rfl⟩ rfl rfl (fun r_15 w_15 H locs hp_15 hW hz hS => ?_)
      obtain ⟨q_r, q_w⟩ := hp_15
      subst r_15
      subst w_15
      refine lv_istore_n (lv' := [(2, .int (j_bc (g k))), (0, .ref a), (1, .int (nI k))]) hx hb dX2_pointFrom_18 rfl hl (by decide) rfl (fun ls hl => ?_)
      refine lv_iload_n hx hb dX2_pointFrom_19 rfl (lv_at hl 0 rfl) ?_
      refine lv_if_eq (tgt := 31) hx hb dX2_pointFrom_20 (by decide) (fun c_20 => ?_) (fun c_20 => ?_)
      ·
        refine lv_iconst (v := (-1)) hx hb dX2_pointFrom_31 (by decide) ?_
        refine wd_iret hx hb hr hlocks hW hS dX2_pointFrom_32 ?_
        exact ⟨by rw [j_pf, if_neg (by omega), if_pos (Or.inl c_20)], rfl⟩
      ·
        refine lv_iload_n hx hb dX2_pointFrom_23 rfl (lv_at hl 0 rfl) ?_
        refine lv_aload_n hx hb dX2_pointFrom_24 rfl (lv_at hl 1 rfl) ?_
        refine wd_alen hx hb hK.1 hW 0 ha rfl dX2_pointFrom_25 ?_
        refine lv_iload_n hx hb dX2_pointFrom_26 rfl (lv_at hl 2 rfl) ?_
        refine lv_isub hx hb dX2_pointFrom_27 ?_
        refine lv_icmp_le (tgt := 33) hx hb dX2_pointFrom_28 (by decide) (fun c_28 => ?_) (fun c_28 => ?_)
        ·
          simp only [i_le, Decidable.not_not] at c_28
          refine lv_aload_n hx hb dX2_pointFrom_33 rfl (lv_at hl 1 rfl) ?_
          refine lv_iload_n hx hb dX2_pointFrom_34 rfl (lv_at hl 2 rfl) ?_
          refine wd_iald hx hb hK.1 hW 0 ha rfl (vp_in_nI (by omega) (by omega)) dX2_pointFrom_35 ?_
          refine wd_topE (y := g k) (by rw [nI_clamp (by omega)]) ?_
          refine lv_iload_n hx hb dX2_pointFrom_36 rfl (lv_at hl 0 rfl) ?_
          refine wd_callSi (As := [.int (j_bc (g k))]) (rest := [.int (g k)]) (c2 := 0) (s2 := 0) ⟨hx, hb, hml, hown, hts⟩ (k_X2_firstByteOffset l D cI cT w H.size (j_bc (g k)) ) (va_cwS 1 hts gX2_pointFrom_X2_firstByteOffset rfl rfl rfl (by decide +kernel) ⟨Nat.le_of_ble_eq_true rfl, Nat.le_of_ble_eq_true rfl⟩) gK_ok hK hW hS hA rfl hl.1 rfl (Nat.le_of_ble_eq_true rfl) dX2_pointFrom_37 ⟨Nat.le_of_ble_eq_true rfl, Nat.le_of_ble_eq_true rfl⟩ rfl rfl (fun r_37 w_37 H locs hp_37 hW hz hS => ?_)
          obtain ⟨q_r, q_w⟩ := hp_37
          subst r_37
          subst w_37
          refine lv_isub hx hb dX2_pointFrom_40 ?_
          refine lv_istore_n (lv' := [(3, .int ((g k) - (j_fbo (j_bc (g k))))), (2, .int (j_bc (g k))), (0, .ref a), (1, .int (nI k))]) hx hb dX2_pointFrom_41 rfl hl (by decide) rfl (fun ls hl => ?_)
          refine lv_iload_n hx hb dX2_pointFrom_42 rfl (lv_at hl 3 rfl) ?_
          refine lv_iconst (v := 1) hx hb dX2_pointFrom_43 (by decide) ?_
          refine lv_iadd hx hb dX2_pointFrom_44 ?_
          refine wd_topE (y := nI (k + 1)) (nI_1 k) ?_
          refine lv_istore (lv' := [(4, .int (nI (k + 1))), (3, .int ((g k) - (j_fbo (j_bc (g k))))), (2, .int (j_bc (g k))), (0, .ref a), (1, .int (nI k))]) hx hb dX2_pointFrom_45 hl (by decide) rfl (fun ls hl => ?_)
          refine wd_loop3 (fun (q : Nat) (mm : Nat) (pp : Int32) (H : Heap) (locs : List Loc) (ls : Array Slot) => (len ≤ mm + q) ∧ (mm ≤ len) ∧ (j_pfl g len (nI k + j_bc (g k)) (len - (k + 1)) (k + 1) (g k - j_fbo (j_bc (g k))) = j_pfl g len (nI k + j_bc (g k)) q mm pp) ∧ wd_P D vwCl (wd_A w sg.heap.size) w H ∧ va_S (wd_A w sg.heap.size) sg.heap H locs ∧ lv_has ls 5 [(0, .ref a), (1, .int (nI k)), (2, .int (j_bc (g k))), (3, .int pp), (4, .int (nI mm))]) (fun (q : Nat) (mm : Nat) (pp : Int32) => q) (len - (k + 1)) (k + 1) (g k - j_fbo (j_bc (g k))) ⟨(by omega), (by omega), rfl, hW, hS, (lv_sub hl [3, 4, 2, 1, 0] rfl)⟩ (fun q mm pp H locs ls hI ih => ?_)
          obtain ⟨hq, hmm, hI, hW, hS, hl⟩ := hI
          refine lv_iload hx hb dX2_pointFrom_47 (lv_at hl 4 rfl) ?_
          refine lv_iload_n hx hb dX2_pointFrom_49 rfl (lv_at hl 1 rfl) ?_
          refine lv_iload_n hx hb dX2_pointFrom_50 rfl (lv_at hl 2 rfl) ?_
          refine lv_iadd hx hb dX2_pointFrom_51 ?_
          refine lv_icmp_ge (tgt := 104) hx hb dX2_pointFrom_52 (by decide) (fun c_52 => ?_) (fun c_52 => ?_)
          ·
            simp only [i_le, Decidable.not_not] at c_52
            refine lv_iload_n hx hb dX2_pointFrom_104 rfl (lv_at hl 3 rfl) ?_
            refine lv_iload_n hx hb dX2_pointFrom_105 rfl (lv_at hl 2 rfl) ?_
            refine wd_callSi (As := [.int pp, .int (j_bc (g k))]) (rest := []) (c2 := 0) (s2 := 0) ⟨hx, hb, hml, hown, hts⟩ (k_X2_isToldIn l D cI cT w H.size pp (j_bc (g k)) ) (va_cwS 2 hts gX2_pointFrom_X2_isToldIn rfl rfl rfl (by decide +kernel) ⟨Nat.le_of_ble_eq_true rfl, Nat.le_of_ble_eq_true rfl⟩) gK_ok hK hW hS hA rfl hl.1 rfl (Nat.le_of_ble_eq_true rfl) dX2_pointFrom_106 ⟨Nat.le_of_ble_eq_true rfl, Nat.le_of_ble_eq_true rfl⟩ rfl rfl (fun r_106 w_106 H locs hp_106 hW hz hS => ?_)
            obtain ⟨q_r, q_w⟩ := hp_106
            subst r_106
            subst w_106
            refine lv_if_eq (tgt := 116) hx hb dX2_pointFrom_109 (by decide) (fun c_109 => ?_) (fun c_109 => ?_)
            ·
              have c_109 := j_b0 c_109
              refine lv_iconst (v := (-1)) hx hb dX2_pointFrom_116 (by decide) ?_
              refine wd_iret hx hb hr hlocks hW hS dX2_pointFrom_117 ?_
              exact ⟨by rw [j_pf, if_neg (by omega), if_neg (fun h => h.elim c_20 c_28), hI, j_pfl_out (Or.inl c_52)]; show _ = (if j_told pp (j_bc (g k)) then pp else -1); rw [if_neg c_109], rfl⟩
            ·
              have c_109 := j_bn c_109
              refine lv_iload_n hx hb dX2_pointFrom_112 rfl (lv_at hl 3 rfl) ?_
              refine lv_goto (tgt := 117) hx hb dX2_pointFrom_113 (by decide) ?_
              refine wd_iret hx hb hr hlocks hW hS dX2_pointFrom_117 ?_
              exact ⟨by rw [j_pf, if_neg (by omega), if_neg (fun h => h.elim c_20 c_28), hI, j_pfl_out (Or.inl c_52)]; show _ = (if j_told pp (j_bc (g k)) then pp else -1); rw [if_pos c_109], rfl⟩
          ·
            simp only [i_le, Decidable.not_not] at c_52
            refine lv_iload hx hb dX2_pointFrom_55 (lv_at hl 4 rfl) ?_
            refine lv_aload_n hx hb dX2_pointFrom_57 rfl (lv_at hl 0 rfl) ?_
            refine wd_alen hx hb hK.1 hW 0 ha rfl dX2_pointFrom_58 ?_
            refine lv_icmp_ge (tgt := 104) hx hb dX2_pointFrom_59 (by decide) (fun c_59 => ?_) (fun c_59 => ?_)
            ·
              have c_59 : len ≤ mm := (nI_leI (by omega) (by omega)).mp (show (nI len ≤ nI mm) from c_59)
              refine lv_iload_n hx hb dX2_pointFrom_104 rfl (lv_at hl 3 rfl) ?_
              refine lv_iload_n hx hb dX2_pointFrom_105 rfl (lv_at hl 2 rfl) ?_
              refine wd_callSi (As := [.int pp, .int (j_bc (g k))]) (rest := []) (c2 := 0) (s2 := 0) ⟨hx, hb, hml, hown, hts⟩ (k_X2_isToldIn l D cI cT w H.size pp (j_bc (g k)) ) (va_cwS 2 hts gX2_pointFrom_X2_isToldIn rfl rfl rfl (by decide +kernel) ⟨Nat.le_of_ble_eq_true rfl, Nat.le_of_ble_eq_true rfl⟩) gK_ok hK hW hS hA rfl hl.1 rfl (Nat.le_of_ble_eq_true rfl) dX2_pointFrom_106 ⟨Nat.le_of_ble_eq_true rfl, Nat.le_of_ble_eq_true rfl⟩ rfl rfl (fun r_106 w_106 H locs hp_106 hW hz hS => ?_)
              obtain ⟨q_r, q_w⟩ := hp_106
              subst r_106
              subst w_106
              refine lv_if_eq (tgt := 116) hx hb dX2_pointFrom_109 (by decide) (fun c_109 => ?_) (fun c_109 => ?_)
              ·
                have c_109 := j_b0 c_109
                refine lv_iconst (v := (-1)) hx hb dX2_pointFrom_116 (by decide) ?_
                refine wd_iret hx hb hr hlocks hW hS dX2_pointFrom_117 ?_
                exact ⟨by rw [j_pf, if_neg (by omega), if_neg (fun h => h.elim c_20 c_28), hI, j_pfl_out (Or.inr (by omega))]; show _ = (if j_told pp (j_bc (g k)) then pp else -1); rw [if_neg c_109], rfl⟩
              ·
                have c_109 := j_bn c_109
                refine lv_iload_n hx hb dX2_pointFrom_112 rfl (lv_at hl 3 rfl) ?_
                refine lv_goto (tgt := 117) hx hb dX2_pointFrom_113 (by decide) ?_
                refine wd_iret hx hb hr hlocks hW hS dX2_pointFrom_117 ?_
                exact ⟨by rw [j_pf, if_neg (by omega), if_neg (fun h => h.elim c_20 c_28), hI, j_pfl_out (Or.inr (by omega))]; show _ = (if j_told pp (j_bc (g k)) then pp else -1); rw [if_pos c_109], rfl⟩
            ·
              have c_59 : ¬ (len ≤ mm) := fun q9 => absurd ((nI_leI (by omega) (by omega)).mpr q9) (show ¬ (nI len ≤ nI mm) from c_59)
              refine lv_aload_n hx hb dX2_pointFrom_62 rfl (lv_at hl 0 rfl) ?_
              refine lv_iload hx hb dX2_pointFrom_63 (lv_at hl 4 rfl) ?_
              refine wd_iald hx hb hK.1 hW 0 ha rfl (vp_in_nI (by omega) (by omega)) dX2_pointFrom_65 ?_
              refine wd_topE (y := g mm) (by rw [nI_clamp (by omega)]) ?_
              refine lv_sipush (v := 128) hx hb dX2_pointFrom_66 (by decide) ?_
              refine lv_icmp_lt (tgt := 82) hx hb dX2_pointFrom_69 (by decide) (fun c_69 => ?_) (fun c_69 => ?_)
              ·
                refine lv_iconst (v := (-1)) hx hb dX2_pointFrom_82 (by decide) ?_
                refine wd_iret hx hb hr hlocks hW hS dX2_pointFrom_83 ?_
                exact ⟨by rw [j_pf, if_neg (by omega), if_neg (fun h => h.elim c_20 c_28), hI, j_pfl_bad c_52 (by omega) (Or.inl c_69) (by omega)], rfl⟩
              ·
                refine lv_aload_n hx hb dX2_pointFrom_72 rfl (lv_at hl 0 rfl) ?_
                refine lv_iload hx hb dX2_pointFrom_73 (lv_at hl 4 rfl) ?_
                refine wd_iald hx hb hK.1 hW 0 ha rfl (vp_in_nI (by omega) (by omega)) dX2_pointFrom_75 ?_
                refine wd_topE (y := g mm) (by rw [nI_clamp (by omega)]) ?_
                refine lv_sipush (v := 191) hx hb dX2_pointFrom_76 (by decide) ?_
                refine lv_icmp_le (tgt := 84) hx hb dX2_pointFrom_79 (by decide) (fun c_79 => ?_) (fun c_79 => ?_)
                ·
                  simp only [i_le, Decidable.not_not] at c_79
                  refine lv_iload_n hx hb dX2_pointFrom_84 rfl (lv_at hl 3 rfl) ?_
                  refine lv_bipush (v := 64) hx hb dX2_pointFrom_85 (by decide) ?_
                  refine lv_imul hx hb dX2_pointFrom_87 ?_
                  refine lv_aload_n hx hb dX2_pointFrom_88 rfl (lv_at hl 0 rfl) ?_
                  refine lv_iload hx hb dX2_pointFrom_89 (lv_at hl 4 rfl) ?_
                  refine wd_iald hx hb hK.1 hW 0 ha rfl (vp_in_nI (by omega) (by omega)) dX2_pointFrom_91 ?_
                  refine wd_topE (y := g mm) (by rw [nI_clamp (by omega)]) ?_
                  refine lv_sipush (v := 128) hx hb dX2_pointFrom_92 (by decide) ?_
                  refine lv_isub hx hb dX2_pointFrom_95 ?_
                  refine lv_iadd hx hb dX2_pointFrom_96 ?_
                  refine lv_istore_n (lv' := [(3, .int ((pp * 64) + ((g mm) - 128))), (0, .ref a), (1, .int (nI k)), (2, .int (j_bc (g k))), (4, .int (nI mm))]) hx hb dX2_pointFrom_97 rfl hl (by decide) rfl (fun ls hl => ?_)
                  refine lv_iinc (v := nI (mm + 1)) (lv' := [(4, .int (nI (mm + 1))), (3, .int ((pp * 64) + ((g mm) - 128))), (0, .ref a), (1, .int (nI k)), (2, .int (j_bc (g k)))]) hx hb dX2_pointFrom_98 hl (k := 4) rfl (nI_add mm 1) (by decide) rfl (fun ls hl => ?_)
                  refine lv_goto (tgt := 47) hx hb dX2_pointFrom_101 (by decide) ?_
                  exact ih (q - 1) (mm + 1) (pp * 64 + (g mm - 128)) H locs ls ⟨(by omega), (by omega), (hI.trans (j_pfl_go c_52 (by omega) (fun h => h.elim c_69 c_79) (by omega))), hW, hS, (lv_sub hl [2, 3, 4, 1, 0] rfl)⟩ (by omega)
                ·
                  simp only [i_le, Decidable.not_not] at c_79
                  refine lv_iconst (v := (-1)) hx hb dX2_pointFrom_82 (by decide) ?_
                  refine wd_iret hx hb hr hlocks hW hS dX2_pointFrom_83 ?_
                  exact ⟨by rw [j_pf, if_neg (by omega), if_neg (fun h => h.elim c_20 c_28), hI, j_pfl_bad c_52 (by omega) (Or.inr c_79) (by omega)], rfl⟩
        ·
          simp only [i_le, Decidable.not_not] at c_28
          refine lv_iconst (v := (-1)) hx hb dX2_pointFrom_31 (by decide) ?_
          refine wd_iret hx hb hr hlocks hW hS dX2_pointFrom_32 ?_
          exact ⟨by rw [j_pf, if_neg (by omega), if_pos (Or.inr c_28)], rfl⟩
    ·
      have c_7 : ¬ (k < len) := fun q9 => absurd ((nI_ltI (by omega) (by omega)).mpr q9) (show ¬ (nI k < nI len) from c_7)
      refine lv_iconst (v := (-1)) hx hb dX2_pointFrom_10 (by decide) ?_
      refine wd_iret hx hb hr hlocks hW hS dX2_pointFrom_11 ?_
      exact ⟨by rw [j_pf, if_pos (by omega)], rfl⟩
set_option maxHeartbeats 4000000 in
set_option maxRecDepth 100000 in
theorem k_X2_readTwoBytes (l : Launch) (D : va_G) (cI cT : ClassId) (w : Wd) (sz : Nat) (r : Nat) (rI : Nat) (n : Nat) (X : Rw) (a : Nat) (len : Nat) (g : Nat → Int32) (form : Int32) (hR : rowAt w r rI cI n X) (ha : w a = some (e_ints cI len g)) (hlen : len ≤ 5760) (hne : a ≠ rI) : wd_Mi l D vwCl (gK D cI cT) yX2_readTwoBytes wsX2_readTwoBytes (wd_rm 1 0 0) [.ref a, .int form, .ref r] w sz (fun q w' => q = (j_r2 n g len form len 0 X).1 ∧ w' = rowSet w r rI cI n (j_r2 n g len form len 0 X).2) := by
  refine wd_met (cc := cX2_readTwoBytes) (maxL := 6) (ret := (some .int)) (by decide) rfl (Nat.le_of_ble_eq_true rfl) ?_
  intro pg ev sg mi bl mt cde ls C0 hsz hK hW hl
  obtain ⟨hx, hb, hr, hml, hown, hts, hlocks, hnm⟩ := C0
  subst hsz
  have hown : sg.vm.findClass RX2 = some mi.cls := hown
  have hS : va_S (wd_A w sg.heap.size) sg.heap sg.heap [] := va_S.rf
  have hA : ∀ q, sg.heap.size ≤ q → wd_A w sg.heap.size q := fun q h => Or.inr h
  have hl : lv_has ls 6 [(0, .ref a), (1, .int form), (2, .ref r)] := hl
  refine lv_iconst (v := 0) hx hb dX2_readTwoBytes_0 (by decide) ?_
  refine lv_istore_n (lv' := [(3, .int 0), (0, .ref a), (1, .int form), (2, .ref r)]) hx hb dX2_readTwoBytes_1 rfl hl (by decide) rfl (fun ls hl => ?_)
  refine wd_loop3 (fun (k : Nat) (m : Nat) (Y : Rw) (H : Heap) (locs : List Loc) (ls : Array Slot) => (len ≤ k + m) ∧ (k ≤ len + 1) ∧ (j_r2 n g len form len 0 X = j_r2 n g len form m k Y) ∧ (Y.2 ≤ n) ∧ wd_P D vwCl (wd_A w sg.heap.size) (rowSet w r rI cI n Y) H ∧ va_S (wd_A w sg.heap.size) sg.heap H locs ∧ lv_has ls 6 [(0, .ref a), (1, .int form), (2, .ref r), (3, .int (nI k))]) (fun (k : Nat) (m : Nat) (Y : Rw) => m) 0 len X ⟨(by omega), (by omega), rfl, hR.2.2.1, (by rw [rowSet_self hR]; exact hW), hS, (lv_sub hl [1, 2, 3, 0] rfl)⟩ (fun k m Y H locs ls hI ih => ?_)
  obtain ⟨hm, hk, hI, hY, hW, hS, hl⟩ := hI
  have hRk : rowAt (rowSet w r rI cI n Y) r rI cI n Y := rowSet_at hR.ne hY hR.2.2.2
  have hX2 := hR.2.2.2
  have fo_a_k : (rowSet w r rI cI n Y) a = some (.inl (cI, len, .inl g)) := (rowSet_ne (wd_ne ha hR.1 (by simp)) hne).trans ha
  refine lv_iload_n hx hb dX2_readTwoBytes_2 rfl (lv_at hl 3 rfl) ?_
  refine lv_aload_n hx hb dX2_readTwoBytes_3 rfl (lv_at hl 0 rfl) ?_
  refine wd_alen hx hb hK.1 hW 0 fo_a_k rfl dX2_readTwoBytes_4 ?_
  refine lv_icmp_ge (tgt := 82) hx hb dX2_readTwoBytes_5 (by decide) (fun c_5 => ?_) (fun c_5 => ?_)
  ·
    have c_5 : len ≤ k := (nI_leI (by omega) (by omega)).mp (show (nI len ≤ nI k) from c_5)
    refine lv_iconst (v := (-1)) hx hb dX2_readTwoBytes_82 (by decide) ?_
    refine wd_iret hx hb hr hlocks hW hS dX2_readTwoBytes_83 ?_
    exact ⟨by rw [hI, j_r2_out (Or.inl (by omega))], by rw [hI, j_r2_out (Or.inl (by omega))]⟩
  ·
    have c_5 : ¬ (len ≤ k) := fun q9 => absurd ((nI_leI (by omega) (by omega)).mpr q9) (show ¬ (nI len ≤ nI k) from c_5)
    refine lv_aload_n hx hb dX2_readTwoBytes_8 rfl (lv_at hl 2 rfl) ?_
    refine wd_get (ci := 0) (v := .int (nI Y.2)) (C := RX0) (T := TX0) (N := 2) hx hb hts (by decide +kernel) hown hK.1 hW hRk.1 rfl 1 (by decide) (hts (.fieldLink RX2 48 "CharRows$Row" "count" "I") (by decide +kernel)) (fun _ h9 => h9) rfl dX2_readTwoBytes_9 ?_
    refine lv_bipush (v := 60) hx hb dX2_readTwoBytes_12 (by decide) ?_
    refine lv_icmp_gt (tgt := 82) hx hb dX2_readTwoBytes_14 (by decide) (fun c_14 => ?_) (fun c_14 => ?_)
    ·
      have c_14 : 60 < Y.2 := (nI_ltI (by omega) (by omega)).mp (show (nI 60 < nI Y.2) from c_14)
      refine lv_iconst (v := (-1)) hx hb dX2_readTwoBytes_82 (by decide) ?_
      refine wd_iret hx hb hr hlocks hW hS dX2_readTwoBytes_83 ?_
      exact ⟨by rw [hI, j_r2_out (Or.inr (by omega))], by rw [hI, j_r2_out (Or.inr (by omega))]⟩
    ·
      have c_14 : ¬ (60 < Y.2) := fun q9 => absurd ((nI_ltI (by omega) (by omega)).mpr q9) (show ¬ (nI 60 < nI Y.2) from c_14)
      refine lv_iload_n hx hb dX2_readTwoBytes_17 rfl (lv_at hl 3 rfl) ?_
      refine lv_aload_n hx hb dX2_readTwoBytes_18 rfl (lv_at hl 0 rfl) ?_
      refine wd_alen hx hb hK.1 hW 0 fo_a_k rfl dX2_readTwoBytes_19 ?_
      refine lv_iconst (v := 1) hx hb dX2_readTwoBytes_20 (by decide) ?_
      refine lv_isub hx hb dX2_readTwoBytes_21 ?_
      refine wd_topE (y := nI (len - 1)) (show nI len - nI 1 = _ from pk_sub (by omega)) ?_
      refine lv_icmp_ne (tgt := 27) hx hb dX2_readTwoBytes_22 (by decide) (fun c_22 => ?_) (fun c_22 => ?_)
      ·
        have c_22 : ¬ (k = len - 1) := fun q9 => absurd ((nI_eq (by omega) (by omega)).mpr q9) (show ¬ (nI k = nI (len - 1)) from c_22)
        refine lv_iload_n hx hb dX2_readTwoBytes_27 rfl (lv_at hl 1 rfl) ?_
        refine lv_iconst (v := 1) hx hb dX2_readTwoBytes_28 (by decide) ?_
        refine lv_icmp_ne (tgt := 38) hx hb dX2_readTwoBytes_29 (by decide) (fun c_29 => ?_) (fun c_29 => ?_)
        ·
          refine lv_aload_n hx hb dX2_readTwoBytes_38 rfl (lv_at hl 0 rfl) ?_
          refine lv_iload_n hx hb dX2_readTwoBytes_39 rfl (lv_at hl 3 rfl) ?_
          refine lv_iconst (v := 1) hx hb dX2_readTwoBytes_40 (by decide) ?_
          refine lv_iadd hx hb dX2_readTwoBytes_41 ?_
          refine wd_topE (y := nI (k + 1)) (nI_1 k) ?_
          refine wd_iald hx hb hK.1 hW 0 fo_a_k rfl (vp_in_nI (by omega) (by omega)) dX2_readTwoBytes_42 ?_
          refine wd_topE (y := g (k + 1)) (by rw [nI_clamp (by omega)]) ?_
          refine lv_istore (lv' := [(4, .int (g (k + 1))), (0, .ref a), (1, .int form), (2, .ref r), (3, .int (nI k))]) hx hb dX2_readTwoBytes_43 hl (by decide) rfl (fun ls hl => ?_)
          refine lv_iload_n hx hb dX2_readTwoBytes_45 rfl (lv_at hl 2 rfl) ?_
          refine lv_iconst (v := 1) hx hb dX2_readTwoBytes_46 (by decide) ?_
          refine lv_icmp_ne (tgt := 58) hx hb dX2_readTwoBytes_47 (by decide) (fun c_47 => ?_) (fun c_47 => ?_)
          ·
            refine lv_aload_n hx hb dX2_readTwoBytes_58 rfl (lv_at hl 1 rfl) ?_
            refine lv_iload_n hx hb dX2_readTwoBytes_59 rfl (lv_at hl 4 rfl) ?_
            refine wd_iald hx hb hK.1 hW 0 fo_a_k rfl (vp_in_nI (by omega) (by omega)) dX2_readTwoBytes_60 ?_
            refine wd_topE (y := g k) (by rw [nI_clamp (by omega)]) ?_
            refine lv_istore (lv' := [(5, .int (g k)), (4, .int (g (k + 1))), (0, .ref a), (1, .int form), (2, .ref r), (3, .int (nI k))]) hx hb dX2_readTwoBytes_61 hl (by decide) rfl (fun ls hl => ?_)
            refine lv_aload_n hx hb dX2_readTwoBytes_63 rfl (lv_at hl 4 rfl) ?_
            refine lv_iload hx hb dX2_readTwoBytes_64 (lv_at hl 1 rfl) ?_
            refine lv_sipush (v := 256) hx hb dX2_readTwoBytes_66 (by decide) ?_
            refine lv_imul hx hb dX2_readTwoBytes_69 ?_
            refine lv_iload hx hb dX2_readTwoBytes_70 (lv_at hl 0 rfl) ?_
            refine lv_iadd hx hb dX2_readTwoBytes_72 ?_
            refine wd_callVv (As := [.int (((g (k + 1)) * 256) + (g k))]) (rest := []) (c2 := 0) (s2 := 0) ⟨hx, hb, hml, hown, hts⟩ (k_X0_add l D cI cT (rowSet w r rI cI n Y) H.size r rI n Y (((g (k + 1)) * 256) + (g k)) hRk) (cwV 1 hts gX2_readTwoBytes_X0_add rfl rfl rfl (by decide +kernel) ⟨Nat.le_of_ble_eq_true rfl, Nat.le_of_ble_eq_true rfl⟩) gK_ok hK hW (wd_recv (ci := 0) hK.1 hW rfl hRk.1) hS hA rfl hl.1 rfl (Nat.le_of_ble_eq_true rfl) dX2_readTwoBytes_73 ⟨Nat.le_of_ble_eq_true rfl, Nat.le_of_ble_eq_true rfl⟩ rfl rfl (fun w_73 H locs hp_73 hW hz hS => ?_)
            subst w_73
            rw [rowSet_twice] at hW
            have hR_73 : rowAt (rowSet w r rI cI n (r_add n (((g (k + 1)) * 256) + (g k)) Y)) r rI cI n (r_add n (((g (k + 1)) * 256) + (g k)) Y) := rowSet_at hRk.ne (r_add_le hRk.2.2.1) hRk.2.2.2
            have fo_a_73 : (rowSet w r rI cI n (r_add n (((g (k + 1)) * 256) + (g k)) Y)) a = some (.inl (cI, len, .inl g)) := (rowSet_ne (wd_ne ha hR.1 (by simp)) hne).trans ha
            refine lv_iinc (v := nI (k + 2)) (lv' := [(3, .int (nI (k + 2))), (5, .int (g k)), (4, .int (g (k + 1))), (0, .ref a), (1, .int form), (2, .ref r)]) hx hb dX2_readTwoBytes_76 hl (k := 5) rfl (nI_add k 2) (by decide) rfl (fun ls hl => ?_)
            refine lv_goto (tgt := 2) hx hb dX2_readTwoBytes_79 (by decide) ?_
            exact ih (k + 2) (m - 1) (r_add n (((g (k + 1)) * 256) + (g k)) Y) H locs ls ⟨(by omega), (by omega), (hI.trans ((j_r2_go (by omega) (by omega) (by omega) (by omega)).trans (by rw [if_neg c_29, if_neg c_29]))), (r_add_le hY), hW, hS, (lv_sub hl [3, 4, 5, 0] rfl)⟩ (by omega)
          ·
            exact absurd c_47 c_29
        ·
          refine lv_aload_n hx hb dX2_readTwoBytes_32 rfl (lv_at hl 0 rfl) ?_
          refine lv_iload_n hx hb dX2_readTwoBytes_33 rfl (lv_at hl 3 rfl) ?_
          refine wd_iald hx hb hK.1 hW 0 fo_a_k rfl (vp_in_nI (by omega) (by omega)) dX2_readTwoBytes_34 ?_
          refine wd_topE (y := g k) (by rw [nI_clamp (by omega)]) ?_
          refine lv_goto (tgt := 43) hx hb dX2_readTwoBytes_35 (by decide) ?_
          refine lv_istore (lv' := [(4, .int (g k)), (0, .ref a), (1, .int form), (2, .ref r), (3, .int (nI k))]) hx hb dX2_readTwoBytes_43 hl (by decide) rfl (fun ls hl => ?_)
          refine lv_iload_n hx hb dX2_readTwoBytes_45 rfl (lv_at hl 2 rfl) ?_
          refine lv_iconst (v := 1) hx hb dX2_readTwoBytes_46 (by decide) ?_
          refine lv_icmp_ne (tgt := 58) hx hb dX2_readTwoBytes_47 (by decide) (fun c_47 => ?_) (fun c_47 => ?_)
          ·
            exact absurd c_29 c_47
          ·
            refine lv_aload_n hx hb dX2_readTwoBytes_50 rfl (lv_at hl 1 rfl) ?_
            refine lv_iload_n hx hb dX2_readTwoBytes_51 rfl (lv_at hl 4 rfl) ?_
            refine lv_iconst (v := 1) hx hb dX2_readTwoBytes_52 (by decide) ?_
            refine lv_iadd hx hb dX2_readTwoBytes_53 ?_
            refine wd_topE (y := nI (k + 1)) (nI_1 k) ?_
            refine wd_iald hx hb hK.1 hW 0 fo_a_k rfl (vp_in_nI (by omega) (by omega)) dX2_readTwoBytes_54 ?_
            refine wd_topE (y := g (k + 1)) (by rw [nI_clamp (by omega)]) ?_
            refine lv_goto (tgt := 61) hx hb dX2_readTwoBytes_55 (by decide) ?_
            refine lv_istore (lv' := [(5, .int (g (k + 1))), (4, .int (g k)), (0, .ref a), (1, .int form), (2, .ref r), (3, .int (nI k))]) hx hb dX2_readTwoBytes_61 hl (by decide) rfl (fun ls hl => ?_)
            refine lv_aload_n hx hb dX2_readTwoBytes_63 rfl (lv_at hl 4 rfl) ?_
            refine lv_iload hx hb dX2_readTwoBytes_64 (lv_at hl 1 rfl) ?_
            refine lv_sipush (v := 256) hx hb dX2_readTwoBytes_66 (by decide) ?_
            refine lv_imul hx hb dX2_readTwoBytes_69 ?_
            refine lv_iload hx hb dX2_readTwoBytes_70 (lv_at hl 0 rfl) ?_
            refine lv_iadd hx hb dX2_readTwoBytes_72 ?_
            refine wd_callVv (As := [.int (((g k) * 256) + (g (k + 1)))]) (rest := []) (c2 := 0) (s2 := 0) ⟨hx, hb, hml, hown, hts⟩ (k_X0_add l D cI cT (rowSet w r rI cI n Y) H.size r rI n Y (((g k) * 256) + (g (k + 1))) hRk) (cwV 1 hts gX2_readTwoBytes_X0_add rfl rfl rfl (by decide +kernel) ⟨Nat.le_of_ble_eq_true rfl, Nat.le_of_ble_eq_true rfl⟩) gK_ok hK hW (wd_recv (ci := 0) hK.1 hW rfl hRk.1) hS hA rfl hl.1 rfl (Nat.le_of_ble_eq_true rfl) dX2_readTwoBytes_73 ⟨Nat.le_of_ble_eq_true rfl, Nat.le_of_ble_eq_true rfl⟩ rfl rfl (fun w_73 H locs hp_73 hW hz hS => ?_)
            subst w_73
            rw [rowSet_twice] at hW
            have hR_73 : rowAt (rowSet w r rI cI n (r_add n (((g k) * 256) + (g (k + 1))) Y)) r rI cI n (r_add n (((g k) * 256) + (g (k + 1))) Y) := rowSet_at hRk.ne (r_add_le hRk.2.2.1) hRk.2.2.2
            have fo_a_73 : (rowSet w r rI cI n (r_add n (((g k) * 256) + (g (k + 1))) Y)) a = some (.inl (cI, len, .inl g)) := (rowSet_ne (wd_ne ha hR.1 (by simp)) hne).trans ha
            refine lv_iinc (v := nI (k + 2)) (lv' := [(3, .int (nI (k + 2))), (5, .int (g (k + 1))), (4, .int (g k)), (0, .ref a), (1, .int form), (2, .ref r)]) hx hb dX2_readTwoBytes_76 hl (k := 5) rfl (nI_add k 2) (by decide) rfl (fun ls hl => ?_)
            refine lv_goto (tgt := 2) hx hb dX2_readTwoBytes_79 (by decide) ?_
            exact ih (k + 2) (m - 1) (r_add n (((g k) * 256) + (g (k + 1))) Y) H locs ls ⟨(by omega), (by omega), (hI.trans ((j_r2_go (by omega) (by omega) (by omega) (by omega)).trans (by rw [if_pos c_29, if_pos c_29]))), (r_add_le hY), hW, hS, (lv_sub hl [3, 4, 5, 0] rfl)⟩ (by omega)
      ·
        have c_22 : k = len - 1 := (nI_eq (by omega) (by omega)).mp (show (nI k = nI (len - 1)) from c_22)
        refine lv_iload_n hx hb dX2_readTwoBytes_25 rfl (lv_at hl 3 rfl) ?_
        refine wd_iret hx hb hr hlocks hW hS dX2_readTwoBytes_26 ?_
        exact ⟨by rw [hI, j_r2_end (by omega) (by omega) (by omega) (by omega)], by rw [hI, j_r2_end (by omega) (by omega) (by omega) (by omega)]⟩
set_option maxHeartbeats 4000000 in
set_option maxRecDepth 100000 in
theorem k_X2_readManyBytes (l : Launch) (D : va_G) (cI cT : ClassId) (w : Wd) (sz : Nat) (r : Nat) (rI : Nat) (n : Nat) (X : Rw) (a : Nat) (len : Nat) (g : Nat → Int32) (hR : rowAt w r rI cI n X) (ha : w a = some (e_ints cI len g)) (hlen : len ≤ 5760) (hne : a ≠ rI) : wd_Mi l D vwCl (gK D cI cT) yX2_readManyBytes wsX2_readManyBytes (wd_rm 3 0 0) [.ref a, .ref r] w sz (fun q w' => q = (j_rm n g len len 0 0 X).1 ∧ w' = rowSet w r rI cI n (j_rm n g len len 0 0 X).2) := by
  refine wd_met (cc := cX2_readManyBytes) (maxL := 5) (ret := (some .int)) (by decide) rfl (Nat.le_of_ble_eq_true rfl) ?_
  intro pg ev sg mi bl mt cde ls C0 hsz hK hW hl
  obtain ⟨hx, hb, hr, hml, hown, hts, hlocks, hnm⟩ := C0
  subst hsz
  have hown : sg.vm.findClass RX2 = some mi.cls := hown
  have hS : va_S (wd_A w sg.heap.size) sg.heap sg.heap [] := va_S.rf
  have hA : ∀ q, sg.heap.size ≤ q → wd_A w sg.heap.size q := fun q h => Or.inr h
  have hl : lv_has ls 5 [(0, .ref a), (1, .ref r)] := hl
  refine lv_iconst (v := 0) hx hb dX2_readManyBytes_0 (by decide) ?_
  refine lv_istore_n (lv' := [(2, .int 0), (0, .ref a), (1, .ref r)]) hx hb dX2_readManyBytes_1 rfl hl (by decide) rfl (fun ls hl => ?_)
  refine lv_iconst (v := 0) hx hb dX2_readManyBytes_2 (by decide) ?_
  refine lv_istore_n (lv' := [(3, .int 0), (2, .int 0), (0, .ref a), (1, .ref r)]) hx hb dX2_readManyBytes_3 rfl hl (by decide) rfl (fun ls hl => ?_)
  refine wd_loop4 (fun (k : Nat) (m : Nat) (nx : Int32) (Y : Rw) (H : Heap) (locs : List Loc) (ls : Array Slot) => (len ≤ k + m) ∧ (k ≤ len) ∧ (j_rm n g len len 0 0 X = j_rm n g len m k nx Y) ∧ (Y.2 ≤ n) ∧ wd_P D vwCl (wd_A w sg.heap.size) (rowSet w r rI cI n Y) H ∧ va_S (wd_A w sg.heap.size) sg.heap H locs ∧ lv_has ls 5 [(0, .ref a), (1, .ref r), (2, .int nx), (3, .int (nI k))]) (fun (k : Nat) (m : Nat) (nx : Int32) (Y : Rw) => m) 0 len 0 X ⟨(by omega), (by omega), rfl, hR.2.2.1, (by rw [rowSet_self hR]; exact hW), hS, (lv_sub hl [2, 3, 1, 0] rfl)⟩ (fun k m nx Y H locs ls hI ih => ?_)
  obtain ⟨hm, hk, hI, hY, hW, hS, hl⟩ := hI
  have hRk : rowAt (rowSet w r rI cI n Y) r rI cI n Y := rowSet_at hR.ne hY hR.2.2.2
  have hX2 := hR.2.2.2
  have fo_a_k : (rowSet w r rI cI n Y) a = some (.inl (cI, len, .inl g)) := (rowSet_ne (wd_ne ha hR.1 (by simp)) hne).trans ha
  refine lv_iload_n hx hb dX2_readManyBytes_4 rfl (lv_at hl 3 rfl) ?_
  refine lv_aload_n hx hb dX2_readManyBytes_5 rfl (lv_at hl 0 rfl) ?_
  refine wd_alen hx hb hK.1 hW 0 fo_a_k rfl dX2_readManyBytes_6 ?_
  refine lv_icmp_ge (tgt := 60) hx hb dX2_readManyBytes_7 (by decide) (fun c_7 => ?_) (fun c_7 => ?_)
  ·
    have c_7 : len ≤ k := (nI_leI (by omega) (by omega)).mp (show (nI len ≤ nI k) from c_7)
    refine lv_iconst (v := (-1)) hx hb dX2_readManyBytes_60 (by decide) ?_
    refine wd_iret hx hb hr hlocks hW hS dX2_readManyBytes_61 ?_
    exact ⟨by rw [hI, j_rm_out (Or.inl (by omega))], by rw [hI, j_rm_out (Or.inl (by omega))]⟩
  ·
    have c_7 : ¬ (len ≤ k) := fun q9 => absurd ((nI_leI (by omega) (by omega)).mpr q9) (show ¬ (nI len ≤ nI k) from c_7)
    refine lv_aload_n hx hb dX2_readManyBytes_10 rfl (lv_at hl 1 rfl) ?_
    refine wd_get (ci := 0) (v := .int (nI Y.2)) (C := RX0) (T := TX0) (N := 2) hx hb hts (by decide +kernel) hown hK.1 hW hRk.1 rfl 1 (by decide) (hts (.fieldLink RX2 48 "CharRows$Row" "count" "I") (by decide +kernel)) (fun _ h9 => h9) rfl dX2_readManyBytes_11 ?_
    refine lv_bipush (v := 60) hx hb dX2_readManyBytes_14 (by decide) ?_
    refine lv_icmp_gt (tgt := 60) hx hb dX2_readManyBytes_16 (by decide) (fun c_16 => ?_) (fun c_16 => ?_)
    ·
      have c_16 : 60 < Y.2 := (nI_ltI (by omega) (by omega)).mp (show (nI 60 < nI Y.2) from c_16)
      refine lv_iconst (v := (-1)) hx hb dX2_readManyBytes_60 (by decide) ?_
      refine wd_iret hx hb hr hlocks hW hS dX2_readManyBytes_61 ?_
      exact ⟨by rw [hI, j_rm_out (Or.inr (by omega))], by rw [hI, j_rm_out (Or.inr (by omega))]⟩
    ·
      have c_16 : ¬ (60 < Y.2) := fun q9 => absurd ((nI_ltI (by omega) (by omega)).mpr q9) (show ¬ (nI 60 < nI Y.2) from c_16)
      refine lv_iload_n hx hb dX2_readManyBytes_19 rfl (lv_at hl 3 rfl) ?_
      refine lv_iload_n hx hb dX2_readManyBytes_20 rfl (lv_at hl 2 rfl) ?_
      refine lv_icmp_lt (tgt := 54) hx hb dX2_readManyBytes_21 (by decide) (fun c_21 => ?_) (fun c_21 => ?_)
      ·
        refine lv_iinc (v := nI (k + 1)) (lv' := [(3, .int (nI (k + 1))), (0, .ref a), (1, .ref r), (2, .int nx)]) hx hb dX2_readManyBytes_54 hl (k := 3) rfl (nI_add k 1) (by decide) rfl (fun ls hl => ?_)
        refine lv_goto (tgt := 4) hx hb dX2_readManyBytes_57 (by decide) ?_
        exact ih (k + 1) (m - 1) nx Y H locs ls ⟨(by omega), (by omega), (hI.trans (j_rm_skip (by omega) (by omega) c_21 (by omega))), hY, hW, hS, (lv_sub hl [1, 2, 3, 0] rfl)⟩ (by omega)
      ·
        refine lv_aload_n hx hb dX2_readManyBytes_24 rfl (lv_at hl 0 rfl) ?_
        refine lv_iload_n hx hb dX2_readManyBytes_25 rfl (lv_at hl 3 rfl) ?_
        refine wd_callSi (As := [.ref a, .int (nI k)]) (rest := []) (c2 := 0) (s2 := 0) ⟨hx, hb, hml, hown, hts⟩ (k_X2_pointFrom l D cI cT (rowSet w r rI cI n Y) H.size a len g k fo_a_k (by omega) (by omega)) (va_cwS 2 hts gX2_readManyBytes_X2_pointFrom rfl rfl rfl (by decide +kernel) ⟨Nat.le_of_ble_eq_true rfl, Nat.le_of_ble_eq_true rfl⟩) gK_ok hK hW hS hA rfl hl.1 rfl (Nat.le_of_ble_eq_true rfl) dX2_readManyBytes_26 ⟨Nat.le_of_ble_eq_true rfl, Nat.le_of_ble_eq_true rfl⟩ rfl rfl (fun r_26 w_26 H locs hp_26 hW hz hS => ?_)
        obtain ⟨q_r, q_w⟩ := hp_26
        subst r_26
        subst w_26
        refine lv_istore (lv' := [(4, .int (j_pf g len k)), (0, .ref a), (1, .ref r), (2, .int nx), (3, .int (nI k))]) hx hb dX2_readManyBytes_29 hl (by decide) rfl (fun ls hl => ?_)
        refine lv_iload hx hb dX2_readManyBytes_31 (lv_at hl 0 rfl) ?_
        refine lv_iconst (v := (-1)) hx hb dX2_readManyBytes_33 (by decide) ?_
        refine lv_icmp_ne (tgt := 39) hx hb dX2_readManyBytes_34 (by decide) (fun c_34 => ?_) (fun c_34 => ?_)
        ·
          refine lv_aload_n hx hb dX2_readManyBytes_39 rfl (lv_at hl 2 rfl) ?_
          refine lv_iload hx hb dX2_readManyBytes_40 (lv_at hl 0 rfl) ?_
          refine wd_callVv (As := [.int (j_pf g len k)]) (rest := []) (c2 := 0) (s2 := 0) ⟨hx, hb, hml, hown, hts⟩ (k_X0_addUnitsOf l D cI cT (rowSet w r rI cI n Y) H.size r rI n Y (j_pf g len k) hRk) (cwV 1 hts gX2_readManyBytes_X0_addUnitsOf rfl rfl rfl (by decide +kernel) ⟨Nat.le_of_ble_eq_true rfl, Nat.le_of_ble_eq_true rfl⟩) gK_ok hK hW (wd_recv (ci := 0) hK.1 hW rfl hRk.1) hS hA rfl hl.1 rfl (Nat.le_of_ble_eq_true rfl) dX2_readManyBytes_42 ⟨Nat.le_of_ble_eq_true rfl, Nat.le_of_ble_eq_true rfl⟩ rfl rfl (fun w_42 H locs hp_42 hW hz hS => ?_)
          subst w_42
          rw [rowSet_twice] at hW
          have hR_42 : rowAt (rowSet w r rI cI n (r_uni n (j_pf g len k) Y)) r rI cI n (r_uni n (j_pf g len k) Y) := rowSet_at hRk.ne (r_uni_le hRk.2.2.1) hRk.2.2.2
          have fo_a_42 : (rowSet w r rI cI n (r_uni n (j_pf g len k) Y)) a = some (.inl (cI, len, .inl g)) := (rowSet_ne (wd_ne ha hR.1 (by simp)) hne).trans ha
          refine lv_iload_n hx hb dX2_readManyBytes_45 rfl (lv_at hl 4 rfl) ?_
          refine lv_aload_n hx hb dX2_readManyBytes_46 rfl (lv_at hl 1 rfl) ?_
          refine lv_iload_n hx hb dX2_readManyBytes_47 rfl (lv_at hl 4 rfl) ?_
          refine wd_iald hx hb hK.1 hW 0 fo_a_42 rfl (vp_in_nI (by omega) (by omega)) dX2_readManyBytes_48 ?_
          refine wd_topE (y := g k) (by rw [nI_clamp (by omega)]) ?_
          refine wd_callSi (As := [.int (g k)]) (rest := [.int (nI k)]) (c2 := 0) (s2 := 0) ⟨hx, hb, hml, hown, hts⟩ (k_X2_byteCount l D cI cT (rowSet w r rI cI n (r_uni n (j_pf g len k) Y)) H.size (g k) ) (va_cwS 1 hts gX2_readManyBytes_X2_byteCount rfl rfl rfl (by decide +kernel) ⟨Nat.le_of_ble_eq_true rfl, Nat.le_of_ble_eq_true rfl⟩) gK_ok hK hW hS hA rfl hl.1 rfl (Nat.le_of_ble_eq_true rfl) dX2_readManyBytes_49 ⟨Nat.le_of_ble_eq_true rfl, Nat.le_of_ble_eq_true rfl⟩ rfl rfl (fun r_49 w_49 H locs hp_49 hW hz hS => ?_)
          obtain ⟨q_r, q_w⟩ := hp_49
          subst r_49
          subst w_49
          refine lv_iadd hx hb dX2_readManyBytes_52 ?_
          refine lv_istore_n (lv' := [(2, .int ((nI k) + (j_bc (g k)))), (4, .int (j_pf g len k)), (0, .ref a), (1, .ref r), (3, .int (nI k))]) hx hb dX2_readManyBytes_53 rfl hl (by decide) rfl (fun ls hl => ?_)
          refine lv_iinc (v := nI (k + 1)) (lv' := [(3, .int (nI (k + 1))), (2, .int ((nI k) + (j_bc (g k)))), (4, .int (j_pf g len k)), (0, .ref a), (1, .ref r)]) hx hb dX2_readManyBytes_54 hl (k := 4) rfl (nI_add k 1) (by decide) rfl (fun ls hl => ?_)
          refine lv_goto (tgt := 4) hx hb dX2_readManyBytes_57 (by decide) ?_
          exact ih (k + 1) (m - 1) (nI k + j_bc (g k)) (r_uni n (j_pf g len k) Y) H locs ls ⟨(by omega), (by omega), (hI.trans (j_rm_go (by omega) (by omega) c_21 c_34 (by omega))), (r_uni_le hY), hW, hS, (lv_sub hl [3, 4, 1, 0] rfl)⟩ (by omega)
        ·
          refine lv_iload_n hx hb dX2_readManyBytes_37 rfl (lv_at hl 4 rfl) ?_
          refine wd_iret hx hb hr hlocks hW hS dX2_readManyBytes_38 ?_
          exact ⟨by rw [hI, j_rm_bad (by omega) (by omega) c_21 c_34 (by omega)], by rw [hI, j_rm_bad (by omega) (by omega) c_21 c_34 (by omega)]⟩
set_option maxHeartbeats 4000000 in
set_option maxRecDepth 100000 in
theorem k_X2_readUnits (l : Launch) (D : va_G) (cI cT : ClassId) (w : Wd) (sz : Nat) (r : Nat) (rI : Nat) (n : Nat) (X : Rw) (a : Nat) (len : Nat) (g : Nat → Int32) (form : Int32) (hR : rowAt w r rI cI n X) (ha : w a = some (e_ints cI len g)) (hlen : len ≤ 5760) (hne : a ≠ rI) : wd_Mi l D vwCl (gK D cI cT) yX2_readUnits wsX2_readUnits (wd_rm 4 0 0) [.ref a, .int form, .ref r] w sz (fun q w' => q = (j_ru n g len form X).1 ∧ w' = rowSet w r rI cI n (j_ru n g len form X).2) := by
  refine wd_met (cc := cX2_readUnits) (maxL := 3) (ret := (some .int)) (by decide) rfl (Nat.le_of_ble_eq_true rfl) ?_
  intro pg ev sg mi bl mt cde ls C0 hsz hK hW hl
  obtain ⟨hx, hb, hr, hml, hown, hts, hlocks, hnm⟩ := C0
  subst hsz
  have hown : sg.vm.findClass RX2 = some mi.cls := hown
  have hS : va_S (wd_A w sg.heap.size) sg.heap sg.heap [] := va_S.rf
  have hA : ∀ q, sg.heap.size ≤ q → wd_A w sg.heap.size q := fun q h => Or.inr h
  have hl : lv_has ls 3 [(0, .ref a), (1, .int form), (2, .ref r)] := hl
  refine lv_aload_n hx hb dX2_readUnits_0 rfl (lv_at hl 2 rfl) ?_
  refine wd_callVv (As := []) (rest := []) (c2 := 0) (s2 := 0) ⟨hx, hb, hml, hown, hts⟩ (k_X0_empty l D cI cT w sg.heap.size r rI n X hR) (cwV 0 hts gX2_readUnits_X0_empty rfl rfl rfl (by decide +kernel) ⟨Nat.le_of_ble_eq_true rfl, Nat.le_of_ble_eq_true rfl⟩) gK_ok hK hW (wd_recv (ci := 0) hK.1 hW rfl hR.1) hS hA rfl hl.1 rfl (Nat.le_of_ble_eq_true rfl) dX2_readUnits_1 ⟨Nat.le_of_ble_eq_true rfl, Nat.le_of_ble_eq_true rfl⟩ rfl rfl (fun w_1 H locs hp_1 hW hz hS => ?_)
  subst w_1
  have hR_1 : rowAt (rowSet w r rI cI n (r_nil X)) r rI cI n (r_nil X) := rowSet_at hR.ne (Nat.zero_le _) hR.2.2.2
  have fo_a_1 : (rowSet w r rI cI n (r_nil X)) a = some (.inl (cI, len, .inl g)) := (rowSet_ne (wd_ne ha hR.1 (by simp)) hne).trans ha
  refine lv_iload_n hx hb dX2_readUnits_4 rfl (lv_at hl 1 rfl) ?_
  refine lv_if_ne (tgt := 14) hx hb dX2_readUnits_5 (by decide) (fun c_5 => ?_) (fun c_5 => ?_)
  ·
    refine lv_iload_n hx hb dX2_readUnits_14 rfl (lv_at hl 1 rfl) ?_
    refine lv_iconst (v := 3) hx hb dX2_readUnits_15 (by decide) ?_
    refine lv_icmp_ne (tgt := 26) hx hb dX2_readUnits_16 (by decide) (fun c_16 => ?_) (fun c_16 => ?_)
    ·
      refine lv_aload_n hx hb dX2_readUnits_26 rfl (lv_at hl 0 rfl) ?_
      refine lv_iload_n hx hb dX2_readUnits_27 rfl (lv_at hl 1 rfl) ?_
      refine lv_aload_n hx hb dX2_readUnits_28 rfl (lv_at hl 2 rfl) ?_
      refine wd_callSi (As := [.ref a, .int form, .ref r]) (rest := []) (c2 := 0) (s2 := 0) ⟨hx, hb, hml, hown, hts⟩ (k_X2_readTwoBytes l D cI cT (rowSet w r rI cI n (r_nil X)) H.size r rI n (r_nil X) a len g form hR_1 fo_a_1 (by omega) hne) (va_cwS 3 hts gX2_readUnits_X2_readTwoBytes rfl rfl rfl (by decide +kernel) ⟨Nat.le_of_ble_eq_true rfl, Nat.le_of_ble_eq_true rfl⟩) gK_ok hK hW hS hA rfl hl.1 rfl (Nat.le_of_ble_eq_true rfl) dX2_readUnits_29 ⟨Nat.le_of_ble_eq_true rfl, Nat.le_of_ble_eq_true rfl⟩ rfl rfl (fun r_29 w_29 H locs hp_29 hW hz hS => ?_)
      obtain ⟨q_r, q_w⟩ := hp_29
      subst r_29
      subst w_29
      rw [rowSet_twice] at hW
      have hR_29 : rowAt (rowSet w r rI cI n ((j_r2 n g len form len 0 (r_nil X)).2)) r rI cI n ((j_r2 n g len form len 0 (r_nil X)).2) := rowSet_at hR_1.ne (j_r2_le _ _ _ hR_1.2.2.1) hR_1.2.2.2
      have fo_a_29 : (rowSet w r rI cI n ((j_r2 n g len form len 0 (r_nil X)).2)) a = some (.inl (cI, len, .inl g)) := (rowSet_ne (wd_ne ha hR.1 (by simp)) hne).trans ha
      refine wd_iret hx hb hr hlocks hW hS dX2_readUnits_32 ?_
      exact ⟨by rw [j_ru, if_neg c_5, if_neg c_16], by rw [j_ru, if_neg c_5, if_neg c_16]⟩
    ·
      refine lv_aload_n hx hb dX2_readUnits_19 rfl (lv_at hl 2 rfl) ?_
      refine lv_aload_n hx hb dX2_readUnits_20 rfl (lv_at hl 0 rfl) ?_
      refine wd_callVv (As := [.ref a]) (rest := []) (c2 := 0) (s2 := 0) ⟨hx, hb, hml, hown, hts⟩ (k_X0_addAll l D cI cT (rowSet w r rI cI n (r_nil X)) H.size r rI n (r_nil X) a len g hR_1 fo_a_1 (by omega) hne) (cwV 1 hts gX2_readUnits_X0_addAll rfl rfl rfl (by decide +kernel) ⟨Nat.le_of_ble_eq_true rfl, Nat.le_of_ble_eq_true rfl⟩) gK_ok hK hW (wd_recv (ci := 0) hK.1 hW rfl hR_1.1) hS hA rfl hl.1 rfl (Nat.le_of_ble_eq_true rfl) dX2_readUnits_21 ⟨Nat.le_of_ble_eq_true rfl, Nat.le_of_ble_eq_true rfl⟩ rfl rfl (fun w_21 H locs hp_21 hW hz hS => ?_)
      subst w_21
      rw [rowSet_twice] at hW
      have hR_21 : rowAt (rowSet w r rI cI n (r_all n g len (r_nil X))) r rI cI n (r_all n g len (r_nil X)) := rowSet_at hR_1.ne (r_all_le hR_1.2.2.1) hR_1.2.2.2
      have fo_a_21 : (rowSet w r rI cI n (r_all n g len (r_nil X))) a = some (.inl (cI, len, .inl g)) := (rowSet_ne (wd_ne ha hR.1 (by simp)) hne).trans ha
      refine lv_iconst (v := (-1)) hx hb dX2_readUnits_24 (by decide) ?_
      refine wd_iret hx hb hr hlocks hW hS dX2_readUnits_25 ?_
      exact ⟨by rw [j_ru, if_neg c_5, if_pos c_16], by rw [j_ru, if_neg c_5, if_pos c_16]⟩
  ·
    refine lv_aload_n hx hb dX2_readUnits_8 rfl (lv_at hl 0 rfl) ?_
    refine lv_aload_n hx hb dX2_readUnits_9 rfl (lv_at hl 2 rfl) ?_
    refine wd_callSi (As := [.ref a, .ref r]) (rest := []) (c2 := 0) (s2 := 0) ⟨hx, hb, hml, hown, hts⟩ (k_X2_readManyBytes l D cI cT (rowSet w r rI cI n (r_nil X)) H.size r rI n (r_nil X) a len g hR_1 fo_a_1 (by omega) hne) (va_cwS 2 hts gX2_readUnits_X2_readManyBytes rfl rfl rfl (by decide +kernel) ⟨Nat.le_of_ble_eq_true rfl, Nat.le_of_ble_eq_true rfl⟩) gK_ok hK hW hS hA rfl hl.1 rfl (Nat.le_of_ble_eq_true rfl) dX2_readUnits_10 ⟨Nat.le_of_ble_eq_true rfl, Nat.le_of_ble_eq_true rfl⟩ rfl rfl (fun r_10 w_10 H locs hp_10 hW hz hS => ?_)
    obtain ⟨q_r, q_w⟩ := hp_10
    subst r_10
    subst w_10
    rw [rowSet_twice] at hW
    have hR_10 : rowAt (rowSet w r rI cI n ((j_rm n g len len 0 0 (r_nil X)).2)) r rI cI n ((j_rm n g len len 0 0 (r_nil X)).2) := rowSet_at hR_1.ne (j_rm_le _ _ _ _ hR_1.2.2.1) hR_1.2.2.2
    have fo_a_10 : (rowSet w r rI cI n ((j_rm n g len len 0 0 (r_nil X)).2)) a = some (.inl (cI, len, .inl g)) := (rowSet_ne (wd_ne ha hR.1 (by simp)) hne).trans ha
    refine wd_iret hx hb hr hlocks hW hS dX2_readUnits_13 ?_
    exact ⟨by rw [j_ru, if_pos c_5], by rw [j_ru, if_pos c_5]⟩
set_option maxHeartbeats 4000000 in
set_option maxRecDepth 100000 in
theorem k_X2_standsAt (l : Launch) (D : va_G) (cI cT : ClassId) (w : Wd) (sz : Nat) (tx : Nat) (tI : Nat) (kd : Int32) (len : Nat) (g : Nat → Int32) (px : Nat) (pI : Nat) (kp : Int32) (pn : Nat) (h : Nat → Int32) (k : Int32) (hT : txtAt w tx tI cI kd len g) (hT2 : txtAt w px pI cI kp pn h) : wd_Mi l D vwCl (gK D cI cT) yX2_standsAt wsX2_standsAt (wd_rm 3 0 0) [.ref tx, .ref px, .int k] w sz (fun r w' => r = j_b (j_stands kd g len h pn k) ∧ w' = w) := by
  refine wd_met (cc := cX2_standsAt) (maxL := 5) (ret := (some .boolean)) (by decide) rfl (Nat.le_of_ble_eq_true rfl) ?_
  intro pg ev sg mi bl mt cde ls C0 hsz hK hW hl
  obtain ⟨hx, hb, hr, hml, hown, hts, hlocks, hnm⟩ := C0
  subst hsz
  have hown : sg.vm.findClass RX2 = some mi.cls := hown
  have hS : va_S (wd_A w sg.heap.size) sg.heap sg.heap [] := va_S.rf
  have hA : ∀ q, sg.heap.size ≤ q → wd_A w sg.heap.size q := fun q h => Or.inr h
  have hl : lv_has ls 5 [(0, .ref tx), (1, .ref px), (2, .int k)] := hl
  have hlen := hT.2.2
  have hlen2 := hT2.2.2
  refine lv_aload_n hx hb dX2_standsAt_0 rfl (lv_at hl 1 rfl) ?_
  refine wd_get (ci := 1) (v := .ref pI) (C := RX1) (T := TX1) (N := 2) hx hb hts (by decide +kernel) hown hK.1 hW hT2.1 rfl 1 (by decide) (hts (.fieldLink RX2 93 "CharRows$Text" "items" "[I") (by decide +kernel)) (fun _ h9 => h9) rfl dX2_standsAt_1 ?_
  refine wd_alen hx hb hK.1 hW 0 hT2.2.1 rfl dX2_standsAt_4 ?_
  refine lv_istore_n (lv' := [(3, .int (nI pn)), (0, .ref tx), (1, .ref px), (2, .int k)]) hx hb dX2_standsAt_5 rfl hl (by decide) rfl (fun ls hl => ?_)
  refine lv_aload_n hx hb dX2_standsAt_6 rfl (lv_at hl 1 rfl) ?_
  refine lv_iload_n hx hb dX2_standsAt_7 rfl (lv_at hl 3 rfl) ?_
  refine lv_iload_n hx hb dX2_standsAt_8 rfl (lv_at hl 0 rfl) ?_
  refine wd_callSi (As := [.ref tx, .int k, .int (nI pn)]) (rest := []) (c2 := 0) (s2 := 0) ⟨hx, hb, hml, hown, hts⟩ (k_X2_isBeyond l D cI cT w sg.heap.size tx tI kd len g k (nI pn) (⟨hT.1, hT.2.1, by omega⟩)) (va_cwS 3 hts gX2_standsAt_X2_isBeyond rfl rfl rfl (by decide +kernel) ⟨Nat.le_of_ble_eq_true rfl, Nat.le_of_ble_eq_true rfl⟩) gK_ok hK hW hS hA rfl hl.1 rfl (Nat.le_of_ble_eq_true rfl) dX2_standsAt_9 ⟨Nat.le_of_ble_eq_true rfl, Nat.le_of_ble_eq_true rfl⟩ rfl rfl (fun r_9 w_9 H locs hp_9 hW hz hS => ?_)
  obtain ⟨q_r, q_w⟩ := hp_9
  subst r_9
  subst w_9
  refine lv_if_ne (tgt := 33) hx hb dX2_standsAt_12 (by decide) (fun c_12 => ?_) (fun c_12 => ?_)
  ·
    have c_12 := j_bn c_12
    refine lv_iconst (v := 0) hx hb dX2_standsAt_33 (by decide) ?_
    refine wd_zret hx hb hr hlocks (Or.inl rfl) hW hS dX2_standsAt_34 ?_
    exact ⟨by rw [j_b, if_neg (fun q => q.1 c_12)], rfl⟩
  ·
    have c_12 := j_b0 c_12
    refine lv_aload_n hx hb dX2_standsAt_15 rfl (lv_at hl 1 rfl) ?_
    refine lv_iload_n hx hb dX2_standsAt_16 rfl (lv_at hl 3 rfl) ?_
    refine wd_callSi (As := [.ref tx, .int k]) (rest := []) (c2 := 0) (s2 := 0) ⟨hx, hb, hml, hown, hts⟩ (k_X2_partsPair l D cI cT w H.size tx tI kd len g k (⟨hT.1, hT.2.1, by omega⟩)) (va_cwS 2 hts gX2_standsAt_X2_partsPair rfl rfl rfl (by decide +kernel) ⟨Nat.le_of_ble_eq_true rfl, Nat.le_of_ble_eq_true rfl⟩) gK_ok hK hW hS hA rfl hl.1 rfl (Nat.le_of_ble_eq_true rfl) dX2_standsAt_17 ⟨Nat.le_of_ble_eq_true rfl, Nat.le_of_ble_eq_true rfl⟩ rfl rfl (fun r_17 w_17 H locs hp_17 hW hz hS => ?_)
    obtain ⟨q_r, q_w⟩ := hp_17
    subst r_17
    subst w_17
    refine lv_if_ne (tgt := 33) hx hb dX2_standsAt_20 (by decide) (fun c_20 => ?_) (fun c_20 => ?_)
    ·
      have c_20 := j_bn c_20
      refine lv_iconst (v := 0) hx hb dX2_standsAt_33 (by decide) ?_
      refine wd_zret hx hb hr hlocks (Or.inl rfl) hW hS dX2_standsAt_34 ?_
      exact ⟨by rw [j_b, if_neg (fun q => q.2.1 c_20)], rfl⟩
    ·
      have c_20 := j_b0 c_20
      refine lv_aload_n hx hb dX2_standsAt_23 rfl (lv_at hl 1 rfl) ?_
      refine lv_iload_n hx hb dX2_standsAt_24 rfl (lv_at hl 3 rfl) ?_
      refine lv_iload_n hx hb dX2_standsAt_25 rfl (lv_at hl 0 rfl) ?_
      refine lv_iadd hx hb dX2_standsAt_26 ?_
      refine wd_callSi (As := [.ref tx, .int (k + (nI pn))]) (rest := []) (c2 := 0) (s2 := 0) ⟨hx, hb, hml, hown, hts⟩ (k_X2_partsPair l D cI cT w H.size tx tI kd len g (k + (nI pn)) (⟨hT.1, hT.2.1, by omega⟩)) (va_cwS 2 hts gX2_standsAt_X2_partsPair rfl rfl rfl (by decide +kernel) ⟨Nat.le_of_ble_eq_true rfl, Nat.le_of_ble_eq_true rfl⟩) gK_ok hK hW hS hA rfl hl.1 rfl (Nat.le_of_ble_eq_true rfl) dX2_standsAt_27 ⟨Nat.le_of_ble_eq_true rfl, Nat.le_of_ble_eq_true rfl⟩ rfl rfl (fun r_27 w_27 H locs hp_27 hW hz hS => ?_)
      obtain ⟨q_r, q_w⟩ := hp_27
      subst r_27
      subst w_27
      refine lv_if_eq (tgt := 35) hx hb dX2_standsAt_30 (by decide) (fun c_30 => ?_) (fun c_30 => ?_)
      ·
        have c_30 := j_b0 c_30
        obtain ⟨kk, hke, hkk⟩ := j_beyond_spec hlen hlen2 c_12
        subst hke
        refine lv_iconst (v := 0) hx hb dX2_standsAt_35 (by decide) ?_
        refine lv_istore (lv' := [(4, .int 0), (3, .int (nI pn)), (0, .ref tx), (1, .ref px), (2, .int (nI kk))]) hx hb dX2_standsAt_36 hl (by decide) rfl (fun ls hl => ?_)
        refine wd_loop1 (fun (mm : Nat) (H : Heap) (locs : List Loc) (ls : Array Slot) => (mm ≤ pn) ∧ (∀ j, j < mm → g (kk + j) = h j) ∧ wd_P D vwCl (wd_A w sg.heap.size) w H ∧ va_S (wd_A w sg.heap.size) sg.heap H locs ∧ lv_has ls 5 [(0, .ref tx), (1, .ref px), (2, .int (nI kk)), (3, .int (nI pn)), (4, .int (nI mm))]) (fun (mm : Nat) => pn - mm) 0 ⟨Nat.zero_le _, (fun j hj => absurd hj (Nat.not_lt_zero j)), hW, hS, (lv_sub hl [2, 3, 4, 1, 0] rfl)⟩ (fun mm H locs ls hI ih => ?_)
        obtain ⟨hmm, hall, hW, hS, hl⟩ := hI
        refine lv_iload hx hb dX2_standsAt_38 (lv_at hl 4 rfl) ?_
        refine lv_iload_n hx hb dX2_standsAt_40 rfl (lv_at hl 3 rfl) ?_
        refine lv_icmp_ge (tgt := 71) hx hb dX2_standsAt_41 (by decide) (fun c_41 => ?_) (fun c_41 => ?_)
        ·
          have c_41 : pn ≤ mm := (nI_leI (by omega) (by omega)).mp (show (nI pn ≤ nI mm) from c_41)
          refine lv_iconst (v := 1) hx hb dX2_standsAt_71 (by decide) ?_
          refine wd_zret hx hb hr hlocks (Or.inr rfl) hW hS dX2_standsAt_72 ?_
          exact ⟨by rw [j_b, if_pos ⟨c_12, c_20, c_30, fun j hj => by rw [nI_clamp (by omega)]; exact hall j (by omega)⟩], rfl⟩
        ·
          have c_41 : ¬ (pn ≤ mm) := fun q9 => absurd ((nI_leI (by omega) (by omega)).mpr q9) (show ¬ (nI pn ≤ nI mm) from c_41)
          refine lv_aload_n hx hb dX2_standsAt_44 rfl (lv_at hl 0 rfl) ?_
          refine wd_get (ci := 1) (v := .ref tI) (C := RX1) (T := TX1) (N := 2) hx hb hts (by decide +kernel) hown hK.1 hW hT.1 rfl 1 (by decide) (hts (.fieldLink RX2 93 "CharRows$Text" "items" "[I") (by decide +kernel)) (fun _ h9 => h9) rfl dX2_standsAt_45 ?_
          refine lv_iload_n hx hb dX2_standsAt_48 rfl (lv_at hl 2 rfl) ?_
          refine lv_iload hx hb dX2_standsAt_49 (lv_at hl 4 rfl) ?_
          refine lv_iadd hx hb dX2_standsAt_51 ?_
          refine wd_topE (y := nI (kk + mm)) (nI_add kk mm) ?_
          refine wd_iald hx hb hK.1 hW 0 hT.2.1 rfl (vp_in_nI (by omega) (by omega)) dX2_standsAt_52 ?_
          refine wd_topE (y := g (kk + mm)) (by rw [nI_clamp (by omega)]) ?_
          refine lv_aload_n hx hb dX2_standsAt_53 rfl (lv_at hl 1 rfl) ?_
          refine wd_get (ci := 1) (v := .ref pI) (C := RX1) (T := TX1) (N := 2) hx hb hts (by decide +kernel) hown hK.1 hW hT2.1 rfl 1 (by decide) (hts (.fieldLink RX2 93 "CharRows$Text" "items" "[I") (by decide +kernel)) (fun _ h9 => h9) rfl dX2_standsAt_54 ?_
          refine lv_iload hx hb dX2_standsAt_57 (lv_at hl 4 rfl) ?_
          refine wd_iald hx hb hK.1 hW 0 hT2.2.1 rfl (vp_in_nI (by omega) (by omega)) dX2_standsAt_59 ?_
          refine wd_topE (y := h mm) (by rw [nI_clamp (by omega)]) ?_
          refine lv_icmp_eq (tgt := 65) hx hb dX2_standsAt_60 (by decide) (fun c_60 => ?_) (fun c_60 => ?_)
          ·
            refine lv_iinc (v := nI (mm + 1)) (lv' := [(4, .int (nI (mm + 1))), (0, .ref tx), (1, .ref px), (2, .int (nI kk)), (3, .int (nI pn))]) hx hb dX2_standsAt_65 hl (k := 4) rfl (nI_add mm 1) (by decide) rfl (fun ls hl => ?_)
            refine lv_goto (tgt := 38) hx hb dX2_standsAt_68 (by decide) ?_
            exact ih (mm + 1) H locs ls ⟨(by omega), (lt_s hall c_60), hW, hS, (lv_sub hl [1, 2, 3, 4, 0] rfl)⟩ (by omega)
          ·
            refine lv_iconst (v := 0) hx hb dX2_standsAt_63 (by decide) ?_
            refine wd_zret hx hb hr hlocks (Or.inl rfl) hW hS dX2_standsAt_64 ?_
            exact ⟨by rw [j_b, if_neg (fun q => c_60 (by have q1 := q.2.2.2 mm (by omega); rw [nI_clamp (by omega)] at q1; exact q1))], rfl⟩
      ·
        have c_30 := j_bn c_30
        refine lv_iconst (v := 0) hx hb dX2_standsAt_33 (by decide) ?_
        refine wd_zret hx hb hr hlocks (Or.inl rfl) hW hS dX2_standsAt_34 ?_
        exact ⟨by rw [j_b, if_neg (fun q => q.2.2.1 c_30)], rfl⟩
set_option maxHeartbeats 4000000 in
set_option maxRecDepth 100000 in
theorem k_X2_hasSameItems (l : Launch) (D : va_G) (cI cT : ClassId) (w : Wd) (sz : Nat) (tx : Nat) (tI : Nat) (kd : Int32) (len : Nat) (g : Nat → Int32) (px : Nat) (pI : Nat) (kp : Int32) (pn : Nat) (h : Nat → Int32) (hT : txtAt w tx tI cI kd len g) (hT2 : txtAt w px pI cI kp pn h) : wd_Mi l D vwCl (gK D cI cT) yX2_hasSameItems wsX2_hasSameItems (wd_rm 0 0 0) [.ref tx, .ref px] w sz (fun r w' => r = j_b (j_same g len h pn) ∧ w' = w) := by
  refine wd_met (cc := cX2_hasSameItems) (maxL := 3) (ret := (some .boolean)) (by decide) rfl (Nat.le_of_ble_eq_true rfl) ?_
  intro pg ev sg mi bl mt cde ls C0 hsz hK hW hl
  obtain ⟨hx, hb, hr, hml, hown, hts, hlocks, hnm⟩ := C0
  subst hsz
  have hown : sg.vm.findClass RX2 = some mi.cls := hown
  have hS : va_S (wd_A w sg.heap.size) sg.heap sg.heap [] := va_S.rf
  have hA : ∀ q, sg.heap.size ≤ q → wd_A w sg.heap.size q := fun q h => Or.inr h
  have hl : lv_has ls 3 [(0, .ref tx), (1, .ref px)] := hl
  have hlen := hT.2.2
  have hlen2 := hT2.2.2
  refine lv_aload_n hx hb dX2_hasSameItems_0 rfl (lv_at hl 0 rfl) ?_
  refine lv_ifnull hx hb dX2_hasSameItems_1 ?_
  refine lv_aload_n hx hb dX2_hasSameItems_4 rfl (lv_at hl 1 rfl) ?_
  refine lv_ifnull hx hb dX2_hasSameItems_5 ?_
  refine lv_aload_n hx hb dX2_hasSameItems_8 rfl (lv_at hl 0 rfl) ?_
  refine wd_get (ci := 1) (v := .ref tI) (C := RX1) (T := TX1) (N := 2) hx hb hts (by decide +kernel) hown hK.1 hW hT.1 rfl 1 (by decide) (hts (.fieldLink RX2 93 "CharRows$Text" "items" "[I") (by decide +kernel)) (fun _ h9 => h9) rfl dX2_hasSameItems_9 ?_
  refine wd_alen hx hb hK.1 hW 0 hT.2.1 rfl dX2_hasSameItems_12 ?_
  refine lv_aload_n hx hb dX2_hasSameItems_13 rfl (lv_at hl 1 rfl) ?_
  refine wd_get (ci := 1) (v := .ref pI) (C := RX1) (T := TX1) (N := 2) hx hb hts (by decide +kernel) hown hK.1 hW hT2.1 rfl 1 (by decide) (hts (.fieldLink RX2 93 "CharRows$Text" "items" "[I") (by decide +kernel)) (fun _ h9 => h9) rfl dX2_hasSameItems_14 ?_
  refine wd_alen hx hb hK.1 hW 0 hT2.2.1 rfl dX2_hasSameItems_17 ?_
  refine lv_icmp_eq (tgt := 23) hx hb dX2_hasSameItems_18 (by decide) (fun c_18 => ?_) (fun c_18 => ?_)
  ·
    have c_18 : len = pn := (nI_eq (by omega) (by omega)).mp (show (nI len = nI pn) from c_18)
    refine lv_iconst (v := 0) hx hb dX2_hasSameItems_23 (by decide) ?_
    refine lv_istore_n (lv' := [(2, .int 0), (0, .ref tx), (1, .ref px)]) hx hb dX2_hasSameItems_24 rfl hl (by decide) rfl (fun ls hl => ?_)
    refine wd_loop1 (fun (k : Nat) (H : Heap) (locs : List Loc) (ls : Array Slot) => (k ≤ len) ∧ (∀ j, j < k → g j = h j) ∧ wd_P D vwCl (wd_A w sg.heap.size) w H ∧ va_S (wd_A w sg.heap.size) sg.heap H locs ∧ lv_has ls 3 [(0, .ref tx), (1, .ref px), (2, .int (nI k))]) (fun (k : Nat) => len - k) 0 ⟨Nat.zero_le _, (fun j hj => absurd hj (Nat.not_lt_zero j)), hW, hS, (lv_sub hl [1, 2, 0] rfl)⟩ (fun k H locs ls hI ih => ?_)
    obtain ⟨hk, hall, hW, hS, hl⟩ := hI
    refine lv_iload_n hx hb dX2_hasSameItems_25 rfl (lv_at hl 2 rfl) ?_
    refine lv_aload_n hx hb dX2_hasSameItems_26 rfl (lv_at hl 0 rfl) ?_
    refine wd_get (ci := 1) (v := .ref tI) (C := RX1) (T := TX1) (N := 2) hx hb hts (by decide +kernel) hown hK.1 hW hT.1 rfl 1 (by decide) (hts (.fieldLink RX2 93 "CharRows$Text" "items" "[I") (by decide +kernel)) (fun _ h9 => h9) rfl dX2_hasSameItems_27 ?_
    refine wd_alen hx hb hK.1 hW 0 hT.2.1 rfl dX2_hasSameItems_30 ?_
    refine lv_icmp_ge (tgt := 66) hx hb dX2_hasSameItems_31 (by decide) (fun c_31 => ?_) (fun c_31 => ?_)
    ·
      have c_31 : len ≤ k := (nI_leI (by omega) (by omega)).mp (show (nI len ≤ nI k) from c_31)
      refine lv_iconst (v := 1) hx hb dX2_hasSameItems_66 (by decide) ?_
      refine wd_zret hx hb hr hlocks (Or.inr rfl) hW hS dX2_hasSameItems_67 ?_
      exact ⟨by rw [j_b, if_pos ⟨c_18, fun j hj => hall j (by omega)⟩], rfl⟩
    ·
      have c_31 : ¬ (len ≤ k) := fun q9 => absurd ((nI_leI (by omega) (by omega)).mpr q9) (show ¬ (nI len ≤ nI k) from c_31)
      refine lv_iload_n hx hb dX2_hasSameItems_34 rfl (lv_at hl 2 rfl) ?_
      refine lv_aload_n hx hb dX2_hasSameItems_35 rfl (lv_at hl 1 rfl) ?_
      refine wd_get (ci := 1) (v := .ref pI) (C := RX1) (T := TX1) (N := 2) hx hb hts (by decide +kernel) hown hK.1 hW hT2.1 rfl 1 (by decide) (hts (.fieldLink RX2 93 "CharRows$Text" "items" "[I") (by decide +kernel)) (fun _ h9 => h9) rfl dX2_hasSameItems_36 ?_
      refine wd_alen hx hb hK.1 hW 0 hT2.2.1 rfl dX2_hasSameItems_39 ?_
      refine lv_icmp_ge (tgt := 66) hx hb dX2_hasSameItems_40 (by decide) (fun c_40 => ?_) (fun c_40 => ?_)
      ·
        have c_40 : pn ≤ k := (nI_leI (by omega) (by omega)).mp (show (nI pn ≤ nI k) from c_40)
        refine lv_iconst (v := 1) hx hb dX2_hasSameItems_66 (by decide) ?_
        refine wd_zret hx hb hr hlocks (Or.inr rfl) hW hS dX2_hasSameItems_67 ?_
        exact ⟨by rw [j_b, if_pos ⟨c_18, fun j hj => hall j (by omega)⟩], rfl⟩
      ·
        have c_40 : ¬ (pn ≤ k) := fun q9 => absurd ((nI_leI (by omega) (by omega)).mpr q9) (show ¬ (nI pn ≤ nI k) from c_40)
        refine lv_aload_n hx hb dX2_hasSameItems_43 rfl (lv_at hl 0 rfl) ?_
        refine wd_get (ci := 1) (v := .ref tI) (C := RX1) (T := TX1) (N := 2) hx hb hts (by decide +kernel) hown hK.1 hW hT.1 rfl 1 (by decide) (hts (.fieldLink RX2 93 "CharRows$Text" "items" "[I") (by decide +kernel)) (fun _ h9 => h9) rfl dX2_hasSameItems_44 ?_
        refine lv_iload_n hx hb dX2_hasSameItems_47 rfl (lv_at hl 2 rfl) ?_
        refine wd_iald hx hb hK.1 hW 0 hT.2.1 rfl (vp_in_nI (by omega) (by omega)) dX2_hasSameItems_48 ?_
        refine wd_topE (y := g k) (by rw [nI_clamp (by omega)]) ?_
        refine lv_aload_n hx hb dX2_hasSameItems_49 rfl (lv_at hl 1 rfl) ?_
        refine wd_get (ci := 1) (v := .ref pI) (C := RX1) (T := TX1) (N := 2) hx hb hts (by decide +kernel) hown hK.1 hW hT2.1 rfl 1 (by decide) (hts (.fieldLink RX2 93 "CharRows$Text" "items" "[I") (by decide +kernel)) (fun _ h9 => h9) rfl dX2_hasSameItems_50 ?_
        refine lv_iload_n hx hb dX2_hasSameItems_53 rfl (lv_at hl 2 rfl) ?_
        refine wd_iald hx hb hK.1 hW 0 hT2.2.1 rfl (vp_in_nI (by omega) (by omega)) dX2_hasSameItems_54 ?_
        refine wd_topE (y := h k) (by rw [nI_clamp (by omega)]) ?_
        refine lv_icmp_eq (tgt := 60) hx hb dX2_hasSameItems_55 (by decide) (fun c_55 => ?_) (fun c_55 => ?_)
        ·
          refine lv_iinc (v := nI (k + 1)) (lv' := [(2, .int (nI (k + 1))), (0, .ref tx), (1, .ref px)]) hx hb dX2_hasSameItems_60 hl (k := 2) rfl (nI_add k 1) (by decide) rfl (fun ls hl => ?_)
          refine lv_goto (tgt := 25) hx hb dX2_hasSameItems_63 (by decide) ?_
          exact ih (k + 1) H locs ls ⟨(by omega), (lt_s hall c_55), hW, hS, (lv_sub hl [1, 2, 0] rfl)⟩ (by omega)
        ·
          refine lv_iconst (v := 0) hx hb dX2_hasSameItems_58 (by decide) ?_
          refine wd_zret hx hb hr hlocks (Or.inl rfl) hW hS dX2_hasSameItems_59 ?_
          exact ⟨by rw [j_b, if_neg (fun q => c_55 (q.2 k (by omega)))], rfl⟩
  ·
    have c_18 : ¬ (len = pn) := fun q9 => absurd ((nI_eq (by omega) (by omega)).mpr q9) (show ¬ (nI len = nI pn) from c_18)
    refine lv_iconst (v := 0) hx hb dX2_hasSameItems_21 (by decide) ?_
    refine wd_zret hx hb hr hlocks (Or.inl rfl) hW hS dX2_hasSameItems_22 ?_
    exact ⟨by rw [j_b, if_neg (fun q => c_18 q.1)], rfl⟩
set_option maxHeartbeats 4000000 in
set_option maxRecDepth 100000 in
theorem k_X2_order (l : Launch) (D : va_G) (cI cT : ClassId) (w : Wd) (sz : Nat) (r : Nat) (rI : Nat) (n : Nat) (X : Rw) (r2 : Nat) (rI2 : Nat) (n2 : Nat) (X2 : Rw) (hR : rowAt w r rI cI n X) (hR2 : rowAt w r2 rI2 cI n2 X2) : wd_Mi l D vwCl (gK D cI cT) yX2_order wsX2_order (wd_rm 1 0 0) [.ref r, .ref r2] w sz (fun q w' => q = j_ord X n X2 n2 ∧ w' = w) := by
  refine wd_met (cc := cX2_order) (maxL := 4) (ret := (some .int)) (by decide) rfl (Nat.le_of_ble_eq_true rfl) ?_
  intro pg ev sg mi bl mt cde ls C0 hsz hK hW hl
  obtain ⟨hx, hb, hr, hml, hown, hts, hlocks, hnm⟩ := C0
  subst hsz
  have hown : sg.vm.findClass RX2 = some mi.cls := hown
  have hS : va_S (wd_A w sg.heap.size) sg.heap sg.heap [] := va_S.rf
  have hA : ∀ q, sg.heap.size ≤ q → wd_A w sg.heap.size q := fun q h => Or.inr h
  have hl : lv_has ls 4 [(0, .ref r), (1, .ref r2)] := hl
  have hX1 := hR.2.2.1
  have hX2 := hR.2.2.2
  have hY1 := hR2.2.2.1
  have hY2 := hR2.2.2.2
  refine lv_aload_n hx hb dX2_order_0 rfl (lv_at hl 0 rfl) ?_
  refine wd_get (ci := 0) (v := .int (nI X.2)) (C := RX0) (T := TX0) (N := 2) hx hb hts (by decide +kernel) hown hK.1 hW hR.1 rfl 1 (by decide) (hts (.fieldLink RX2 48 "CharRows$Row" "count" "I") (by decide +kernel)) (fun _ h9 => h9) rfl dX2_order_1 ?_
  refine lv_aload_n hx hb dX2_order_4 rfl (lv_at hl 0 rfl) ?_
  refine wd_get (ci := 0) (v := .ref rI) (C := RX0) (T := TX0) (N := 2) hx hb hts (by decide +kernel) hown hK.1 hW hR.1 rfl 0 (by decide) (hts (.fieldLink RX2 74 "CharRows$Row" "items" "[I") (by decide +kernel)) (fun _ h9 => h9) rfl dX2_order_5 ?_
  refine wd_alen hx hb hK.1 hW 0 hR.2.1 rfl dX2_order_8 ?_
  refine va_mmin (rest := []) hx hb (by rw [hml]; exact hl.1.symm) hown (hts (.methodLink RX2 214 Lib.Math.min.name) (by decide +kernel)) (hts (.static Lib.Math.min.name) (by decide +kernel)) (hts (.initialized "java/lang/Math") (by decide +kernel)) (hts (.code Lib.Math.min.name Lib.Math.min.code 2 (some .int)) (by decide +kernel)) (Nat.le_of_ble_eq_true rfl) (Nat.le_of_ble_eq_true rfl) (Nat.le_of_ble_eq_true rfl) (Nat.le_of_ble_eq_true rfl) dX2_order_9 ?_
  refine wd_topE (y := nI (min X.2 n)) (nI_min (by omega) (by omega)) ?_
  refine lv_aload_n hx hb dX2_order_12 rfl (lv_at hl 1 rfl) ?_
  refine wd_get (ci := 0) (v := .int (nI X2.2)) (C := RX0) (T := TX0) (N := 2) hx hb hts (by decide +kernel) hown hK.1 hW hR2.1 rfl 1 (by decide) (hts (.fieldLink RX2 48 "CharRows$Row" "count" "I") (by decide +kernel)) (fun _ h9 => h9) rfl dX2_order_13 ?_
  refine lv_aload_n hx hb dX2_order_16 rfl (lv_at hl 1 rfl) ?_
  refine wd_get (ci := 0) (v := .ref rI2) (C := RX0) (T := TX0) (N := 2) hx hb hts (by decide +kernel) hown hK.1 hW hR2.1 rfl 0 (by decide) (hts (.fieldLink RX2 74 "CharRows$Row" "items" "[I") (by decide +kernel)) (fun _ h9 => h9) rfl dX2_order_17 ?_
  refine wd_alen hx hb hK.1 hW 0 hR2.2.1 rfl dX2_order_20 ?_
  refine va_mmin (rest := [.int (nI (min X.2 n))]) hx hb (by rw [hml]; exact hl.1.symm) hown (hts (.methodLink RX2 214 Lib.Math.min.name) (by decide +kernel)) (hts (.static Lib.Math.min.name) (by decide +kernel)) (hts (.initialized "java/lang/Math") (by decide +kernel)) (hts (.code Lib.Math.min.name Lib.Math.min.code 2 (some .int)) (by decide +kernel)) (Nat.le_of_ble_eq_true rfl) (Nat.le_of_ble_eq_true rfl) (Nat.le_of_ble_eq_true rfl) (Nat.le_of_ble_eq_true rfl) dX2_order_21 ?_
  refine wd_topE (y := nI (min X2.2 n2)) (nI_min (by omega) (by omega)) ?_
  refine va_mmin (rest := []) hx hb (by rw [hml]; exact hl.1.symm) hown (hts (.methodLink RX2 214 Lib.Math.min.name) (by decide +kernel)) (hts (.static Lib.Math.min.name) (by decide +kernel)) (hts (.initialized "java/lang/Math") (by decide +kernel)) (hts (.code Lib.Math.min.name Lib.Math.min.code 2 (some .int)) (by decide +kernel)) (Nat.le_of_ble_eq_true rfl) (Nat.le_of_ble_eq_true rfl) (Nat.le_of_ble_eq_true rfl) (Nat.le_of_ble_eq_true rfl) dX2_order_24 ?_
  refine wd_topE (y := nI (min (min X.2 n) (min X2.2 n2))) (nI_min (by omega) (by omega)) ?_
  refine lv_istore_n (lv' := [(2, .int (nI (min (min X.2 n) (min X2.2 n2)))), (0, .ref r), (1, .ref r2)]) hx hb dX2_order_27 rfl hl (by decide) rfl (fun ls hl => ?_)
  refine lv_iconst (v := 0) hx hb dX2_order_28 (by decide) ?_
  refine lv_istore_n (lv' := [(3, .int 0), (2, .int (nI (min (min X.2 n) (min X2.2 n2)))), (0, .ref r), (1, .ref r2)]) hx hb dX2_order_29 rfl hl (by decide) rfl (fun ls hl => ?_)
  refine wd_loop1 (fun (k : Nat) (H : Heap) (locs : List Loc) (ls : Array Slot) => (k ≤ min (min X.2 n) (min X2.2 n2)) ∧ (j_cmp X.1 X2.1 (min (min X.2 n) (min X2.2 n2)) 0 = j_cmp X.1 X2.1 (min (min X.2 n) (min X2.2 n2) - k) k) ∧ wd_P D vwCl (wd_A w sg.heap.size) w H ∧ va_S (wd_A w sg.heap.size) sg.heap H locs ∧ lv_has ls 4 [(0, .ref r), (1, .ref r2), (2, .int (nI (min (min X.2 n) (min X2.2 n2)))), (3, .int (nI k))]) (fun (k : Nat) => n - k) 0 ⟨Nat.zero_le _, rfl, hW, hS, (lv_sub hl [2, 3, 1, 0] rfl)⟩ (fun k H locs ls hI ih => ?_)
  obtain ⟨hk, hI, hW, hS, hl⟩ := hI
  refine lv_iload_n hx hb dX2_order_30 rfl (lv_at hl 3 rfl) ?_
  refine lv_iload_n hx hb dX2_order_31 rfl (lv_at hl 2 rfl) ?_
  refine lv_icmp_ge (tgt := 77) hx hb dX2_order_32 (by decide) (fun c_32 => ?_) (fun c_32 => ?_)
  ·
    have c_32 : min (min X.2 n) (min X2.2 n2) ≤ k := (nI_leI (by omega) (by omega)).mp (show (nI (min (min X.2 n) (min X2.2 n2)) ≤ nI k) from c_32)
    refine lv_aload_n hx hb dX2_order_77 rfl (lv_at hl 0 rfl) ?_
    refine wd_get (ci := 0) (v := .int (nI X.2)) (C := RX0) (T := TX0) (N := 2) hx hb hts (by decide +kernel) hown hK.1 hW hR.1 rfl 1 (by decide) (hts (.fieldLink RX2 48 "CharRows$Row" "count" "I") (by decide +kernel)) (fun _ h9 => h9) rfl dX2_order_78 ?_
    refine lv_aload_n hx hb dX2_order_81 rfl (lv_at hl 1 rfl) ?_
    refine wd_get (ci := 0) (v := .int (nI X2.2)) (C := RX0) (T := TX0) (N := 2) hx hb hts (by decide +kernel) hown hK.1 hW hR2.1 rfl 1 (by decide) (hts (.fieldLink RX2 48 "CharRows$Row" "count" "I") (by decide +kernel)) (fun _ h9 => h9) rfl dX2_order_82 ?_
    refine lv_icmp_ne (tgt := 92) hx hb dX2_order_85 (by decide) (fun c_85 => ?_) (fun c_85 => ?_)
    ·
      have c_85 : ¬ (X.2 = X2.2) := fun q9 => absurd ((nI_eq (by omega) (by omega)).mpr q9) (show ¬ (nI X.2 = nI X2.2) from c_85)
      refine lv_aload_n hx hb dX2_order_92 rfl (lv_at hl 0 rfl) ?_
      refine wd_get (ci := 0) (v := .int (nI X.2)) (C := RX0) (T := TX0) (N := 2) hx hb hts (by decide +kernel) hown hK.1 hW hR.1 rfl 1 (by decide) (hts (.fieldLink RX2 48 "CharRows$Row" "count" "I") (by decide +kernel)) (fun _ h9 => h9) rfl dX2_order_93 ?_
      refine lv_aload_n hx hb dX2_order_96 rfl (lv_at hl 1 rfl) ?_
      refine wd_get (ci := 0) (v := .int (nI X2.2)) (C := RX0) (T := TX0) (N := 2) hx hb hts (by decide +kernel) hown hK.1 hW hR2.1 rfl 1 (by decide) (hts (.fieldLink RX2 48 "CharRows$Row" "count" "I") (by decide +kernel)) (fun _ h9 => h9) rfl dX2_order_97 ?_
      refine lv_icmp_ge (tgt := 107) hx hb dX2_order_100 (by decide) (fun c_100 => ?_) (fun c_100 => ?_)
      ·
        have c_100 : X2.2 ≤ X.2 := (nI_leI (by omega) (by omega)).mp (show (nI X2.2 ≤ nI X.2) from c_100)
        refine lv_iconst (v := 1) hx hb dX2_order_107 (by decide) ?_
        refine wd_iret hx hb hr hlocks hW hS dX2_order_108 ?_
        exact ⟨by rw [j_ord, hI, show min (min X.2 n) (min X2.2 n2) - k = 0 by omega]; show _ = (if X.2 = X2.2 then _ else _); rw [if_neg c_85, if_neg (by omega)], rfl⟩
      ·
        have c_100 : ¬ (X2.2 ≤ X.2) := fun q9 => absurd ((nI_leI (by omega) (by omega)).mpr q9) (show ¬ (nI X2.2 ≤ nI X.2) from c_100)
        refine lv_iconst (v := (-1)) hx hb dX2_order_103 (by decide) ?_
        refine lv_goto (tgt := 108) hx hb dX2_order_104 (by decide) ?_
        refine wd_iret hx hb hr hlocks hW hS dX2_order_108 ?_
        exact ⟨by rw [j_ord, hI, show min (min X.2 n) (min X2.2 n2) - k = 0 by omega]; show _ = (if X.2 = X2.2 then _ else _); rw [if_neg c_85, if_pos (by omega)], rfl⟩
    ·
      have c_85 : X.2 = X2.2 := (nI_eq (by omega) (by omega)).mp (show (nI X.2 = nI X2.2) from c_85)
      refine lv_iconst (v := 0) hx hb dX2_order_88 (by decide) ?_
      refine lv_goto (tgt := 108) hx hb dX2_order_89 (by decide) ?_
      refine wd_iret hx hb hr hlocks hW hS dX2_order_108 ?_
      exact ⟨by rw [j_ord, hI, show min (min X.2 n) (min X2.2 n2) - k = 0 by omega]; show _ = (if X.2 = X2.2 then _ else _); rw [if_pos c_85], rfl⟩
  ·
    have c_32 : ¬ (min (min X.2 n) (min X2.2 n2) ≤ k) := fun q9 => absurd ((nI_leI (by omega) (by omega)).mpr q9) (show ¬ (nI (min (min X.2 n) (min X2.2 n2)) ≤ nI k) from c_32)
    refine lv_aload_n hx hb dX2_order_35 rfl (lv_at hl 0 rfl) ?_
    refine wd_get (ci := 0) (v := .ref rI) (C := RX0) (T := TX0) (N := 2) hx hb hts (by decide +kernel) hown hK.1 hW hR.1 rfl 0 (by decide) (hts (.fieldLink RX2 74 "CharRows$Row" "items" "[I") (by decide +kernel)) (fun _ h9 => h9) rfl dX2_order_36 ?_
    refine lv_iload_n hx hb dX2_order_39 rfl (lv_at hl 3 rfl) ?_
    refine wd_iald hx hb hK.1 hW 0 hR.2.1 rfl (vp_in_nI (by omega) (by omega)) dX2_order_40 ?_
    refine wd_topE (y := X.1 k) (by rw [nI_clamp (by omega)]) ?_
    refine lv_aload_n hx hb dX2_order_41 rfl (lv_at hl 1 rfl) ?_
    refine wd_get (ci := 0) (v := .ref rI2) (C := RX0) (T := TX0) (N := 2) hx hb hts (by decide +kernel) hown hK.1 hW hR2.1 rfl 0 (by decide) (hts (.fieldLink RX2 74 "CharRows$Row" "items" "[I") (by decide +kernel)) (fun _ h9 => h9) rfl dX2_order_42 ?_
    refine lv_iload_n hx hb dX2_order_45 rfl (lv_at hl 3 rfl) ?_
    refine wd_iald hx hb hK.1 hW 0 hR2.2.1 rfl (vp_in_nI (by omega) (by omega)) dX2_order_46 ?_
    refine wd_topE (y := X2.1 k) (by rw [nI_clamp (by omega)]) ?_
    refine lv_icmp_eq (tgt := 71) hx hb dX2_order_47 (by decide) (fun c_47 => ?_) (fun c_47 => ?_)
    ·
      refine lv_iinc (v := nI (k + 1)) (lv' := [(3, .int (nI (k + 1))), (0, .ref r), (1, .ref r2), (2, .int (nI (min (min X.2 n) (min X2.2 n2))))]) hx hb dX2_order_71 hl (k := 3) rfl (nI_add k 1) (by decide) rfl (fun ls hl => ?_)
      refine lv_goto (tgt := 30) hx hb dX2_order_74 (by decide) ?_
      exact ih (k + 1) H locs ls ⟨(by omega), (hI.trans ((j_cmp_eq c_47 (by omega)).trans (by rw [show min (min X.2 n) (min X2.2 n2) - k - 1 = min (min X.2 n) (min X2.2 n2) - (k + 1) by omega]))), hW, hS, (lv_sub hl [1, 2, 3, 0] rfl)⟩ (by omega)
    ·
      refine lv_aload_n hx hb dX2_order_50 rfl (lv_at hl 0 rfl) ?_
      refine wd_get (ci := 0) (v := .ref rI) (C := RX0) (T := TX0) (N := 2) hx hb hts (by decide +kernel) hown hK.1 hW hR.1 rfl 0 (by decide) (hts (.fieldLink RX2 74 "CharRows$Row" "items" "[I") (by decide +kernel)) (fun _ h9 => h9) rfl dX2_order_51 ?_
      refine lv_iload_n hx hb dX2_order_54 rfl (lv_at hl 3 rfl) ?_
      refine wd_iald hx hb hK.1 hW 0 hR.2.1 rfl (vp_in_nI (by omega) (by omega)) dX2_order_55 ?_
      refine wd_topE (y := X.1 k) (by rw [nI_clamp (by omega)]) ?_
      refine lv_aload_n hx hb dX2_order_56 rfl (lv_at hl 1 rfl) ?_
      refine wd_get (ci := 0) (v := .ref rI2) (C := RX0) (T := TX0) (N := 2) hx hb hts (by decide +kernel) hown hK.1 hW hR2.1 rfl 0 (by decide) (hts (.fieldLink RX2 74 "CharRows$Row" "items" "[I") (by decide +kernel)) (fun _ h9 => h9) rfl dX2_order_57 ?_
      refine lv_iload_n hx hb dX2_order_60 rfl (lv_at hl 3 rfl) ?_
      refine wd_iald hx hb hK.1 hW 0 hR2.2.1 rfl (vp_in_nI (by omega) (by omega)) dX2_order_61 ?_
      refine wd_topE (y := X2.1 k) (by rw [nI_clamp (by omega)]) ?_
      refine lv_icmp_ge (tgt := 69) hx hb dX2_order_62 (by decide) (fun c_62 => ?_) (fun c_62 => ?_)
      ·
        simp only [i_le, Decidable.not_not] at c_62
        refine lv_iconst (v := 1) hx hb dX2_order_69 (by decide) ?_
        refine wd_iret hx hb hr hlocks hW hS dX2_order_70 ?_
        exact ⟨by rw [j_ord, hI, j_cmp_ne c_47 (by omega)]; show _ = (if X.1 k < X2.1 k then _ else _); rw [if_neg c_62], rfl⟩
      ·
        simp only [i_le, Decidable.not_not] at c_62
        refine lv_iconst (v := (-1)) hx hb dX2_order_65 (by decide) ?_
        refine lv_goto (tgt := 70) hx hb dX2_order_66 (by decide) ?_
        refine wd_iret hx hb hr hlocks hW hS dX2_order_70 ?_
        exact ⟨by rw [j_ord, hI, j_cmp_ne c_47 (by omega)]; show _ = (if X.1 k < X2.1 k then _ else _); rw [if_pos c_62], rfl⟩
set_option maxHeartbeats 4000000 in
set_option maxRecDepth 100000 in
theorem k_X2_sortOf (l : Launch) (D : va_G) (cI cT : ClassId) (w : Wd) (sz : Nat) (tx : Nat) (tI : Nat) (kd : Int32) (len : Nat) (g : Nat → Int32) (hT : txtAt w tx tI cI kd len g) : wd_Mi l D vwCl (gK D cI cT) yX2_sortOf wsX2_sortOf (wd_rm 0 0 0) [.ref tx] w sz (fun r w' => r = kd ∧ w' = w) := by
  refine wd_met (cc := cX2_sortOf) (maxL := 1) (ret := (some .int)) (by decide) rfl (Nat.le_of_ble_eq_true rfl) ?_
  intro pg ev sg mi bl mt cde ls C0 hsz hK hW hl
  obtain ⟨hx, hb, hr, hml, hown, hts, hlocks, hnm⟩ := C0
  subst hsz
  have hown : sg.vm.findClass RX2 = some mi.cls := hown
  have hS : va_S (wd_A w sg.heap.size) sg.heap sg.heap [] := va_S.rf
  have hA : ∀ q, sg.heap.size ≤ q → wd_A w sg.heap.size q := fun q h => Or.inr h
  have hl : lv_has ls 1 [(0, .ref tx)] := hl
  refine lv_aload_n hx hb dX2_sortOf_0 rfl (lv_at hl 0 rfl) ?_
  refine lv_ifnonnull (tgt := 8) hx hb dX2_sortOf_1 (by decide) ?_
  refine lv_aload_n hx hb dX2_sortOf_8 rfl (lv_at hl 0 rfl) ?_
  refine wd_get (ci := 1) (v := .int kd) (C := RX1) (T := TX1) (N := 2) hx hb hts (by decide +kernel) hown hK.1 hW hT.1 rfl 0 (by decide) (hts (.fieldLink RX2 94 "CharRows$Text" "kindOfItems" "I") (by decide +kernel)) (fun _ h9 => h9) rfl dX2_sortOf_9 ?_
  refine wd_iret hx hb hr hlocks hW hS dX2_sortOf_12 ?_
  exact ⟨by first | (simp [j_b]; done) | (simp only [j_b, i_le]; simp; done) | (exfalso; simp_all; done) | rfl, rfl⟩
set_option maxHeartbeats 4000000 in
set_option maxRecDepth 100000 in
theorem k_X2_sortOfN (l : Launch) (D : va_G) (cI cT : ClassId) (w : Wd) (sz : Nat) : wd_Mi l D vwCl (gK D cI cT) yX2_sortOf wsX2_sortOf (wd_rm 0 0 0) [.null] w sz (fun r w' => r = -1 ∧ w' = w) := by
  refine wd_met (cc := cX2_sortOf) (maxL := 1) (ret := (some .int)) (by decide) rfl (Nat.le_of_ble_eq_true rfl) ?_
  intro pg ev sg mi bl mt cde ls C0 hsz hK hW hl
  obtain ⟨hx, hb, hr, hml, hown, hts, hlocks, hnm⟩ := C0
  subst hsz
  have hown : sg.vm.findClass RX2 = some mi.cls := hown
  have hS : va_S (wd_A w sg.heap.size) sg.heap sg.heap [] := va_S.rf
  have hA : ∀ q, sg.heap.size ≤ q → wd_A w sg.heap.size q := fun q h => Or.inr h
  have hl : lv_has ls 1 [(0, .null)] := hl
  refine lv_aload_nN hx hb dX2_sortOf_0 rfl (lv_at hl 0 rfl) ?_
  refine lv_ifnonnullN hx hb dX2_sortOf_1 ?_
  refine lv_iconst (v := (-1)) hx hb dX2_sortOf_4 (by decide) ?_
  refine lv_goto (tgt := 12) hx hb dX2_sortOf_5 (by decide) ?_
  refine wd_iret hx hb hr hlocks hW hS dX2_sortOf_12 ?_
  exact ⟨by first | (simp [j_b]; done) | (simp only [j_b, i_le]; simp; done) | (exfalso; simp_all; done) | rfl, rfl⟩
set_option maxHeartbeats 4000000 in
set_option maxRecDepth 100000 in
theorem k_X1_mostItems (l : Launch) (D : va_G) (cI cT : ClassId) (w : Wd) (sz : Nat) (tx : Nat) (tI : Nat) (kd : Int32) (len : Nat) (g : Nat → Int32) (hT : txtAt w tx tI cI kd len g) : wd_Mi l D vwCl (gK D cI cT) yX1_mostItems wsX1_mostItems (wd_rm 0 0 0) [.ref tx] w sz (fun r w' => r = (if kd = 2 then 240 else 60) ∧ w' = w) := by
  refine wd_met (cc := cX1_mostItems) (maxL := 1) (ret := (some .int)) (by decide) rfl (Nat.le_of_ble_eq_true rfl) ?_
  intro pg ev sg mi bl mt cde ls C0 hsz hK hW hl
  obtain ⟨hx, hb, hr, hml, hown, hts, hlocks, hnm⟩ := C0
  subst hsz
  have hown : sg.vm.findClass RX1 = some mi.cls := hown
  have hS : va_S (wd_A w sg.heap.size) sg.heap sg.heap [] := va_S.rf
  have hA : ∀ q, sg.heap.size ≤ q → wd_A w sg.heap.size q := fun q h => Or.inr h
  have hl : lv_has ls 1 [(0, .ref tx)] := hl
  refine lv_aload_n hx hb dX1_mostItems_0 rfl (lv_at hl 0 rfl) ?_
  refine wd_get (ci := 1) (v := .int kd) (C := RX1) (T := TX1) (N := 2) hx hb hts (by decide +kernel) hown hK.1 hW hT.1 rfl 0 (by decide) (hts (.fieldLink RX1 9 "CharRows$Text" "kindOfItems" "I") (by decide +kernel)) (fun _ h9 => h9) rfl dX1_mostItems_1 ?_
  refine lv_iconst (v := 2) hx hb dX1_mostItems_4 (by decide) ?_
  refine lv_icmp_ne (tgt := 14) hx hb dX1_mostItems_5 (by decide) (fun c_5 => ?_) (fun c_5 => ?_)
  ·
    refine lv_bipush (v := 60) hx hb dX1_mostItems_14 (by decide) ?_
    refine wd_iret hx hb hr hlocks hW hS dX1_mostItems_16 ?_
    exact ⟨by first | (simp [j_b, c_5]; done) | (simp only [j_b, i_le]; simp [c_5]; done) | (exfalso; simp_all; done) | rfl, rfl⟩
  ·
    refine lv_sipush (v := 240) hx hb dX1_mostItems_8 (by decide) ?_
    refine lv_goto (tgt := 16) hx hb dX1_mostItems_11 (by decide) ?_
    refine wd_iret hx hb hr hlocks hW hS dX1_mostItems_16 ?_
    exact ⟨by first | (simp [j_b, c_5]; done) | (simp only [j_b, i_le]; simp [c_5]; done) | (exfalso; simp_all; done) | rfl, rfl⟩
