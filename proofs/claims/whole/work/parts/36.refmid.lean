set_option maxHeartbeats 4000000 in
set_option maxRecDepth 100000 in
theorem k_X3_inCase (l : Launch) (D : va_G) (cI cT : ClassId) (w : Wd) (sz : Nat) (p : Int32) (y : Int32) : wd_Mi l D vwCl (gK D cI cT) yX3_inCase wsX3_inCase (wd_rm 1 0 0) [.int p, .int y] w sz (fun r w' => r = (if y = 0 then j_gr p else j_le p) ∧ w' = w) := by
  refine wd_met (cc := cX3_inCase) (maxL := 2) (ret := (some .int)) (by decide) rfl (Nat.le_of_ble_eq_true rfl) ?_
  intro pg ev sg mi bl mt cde ls C0 hsz hK hW hl
  obtain ⟨hx, hb, hr, hml, hown, hts, hlocks, hnm⟩ := C0
  subst hsz
  have hown : sg.vm.findClass RX3 = some mi.cls := hown
  have hS : va_S (wd_A w sg.heap.size) sg.heap sg.heap [] := va_S.rf
  have hA : ∀ q, sg.heap.size ≤ q → wd_A w sg.heap.size q := fun q h => Or.inr h
  have hl : lv_has ls 2 [(0, .int p), (1, .int y)] := hl
  refine lv_iload_n hx hb dX3_inCase_0 rfl (lv_at hl 1 rfl) ?_
  refine lv_if_ne (tgt := 57) hx hb dX3_inCase_1 (by decide) (fun c_1 => ?_) (fun c_1 => ?_)
  ·
    refine lv_iload_n hx hb dX3_inCase_57 rfl (lv_at hl 0 rfl) ?_
    refine lv_bipush (v := 65) hx hb dX3_inCase_58 (by decide) ?_
    refine lv_bipush (v := 90) hx hb dX3_inCase_60 (by decide) ?_
    refine wd_callSi (As := [.int p, .int 65, .int 90]) (rest := []) (c2 := 0) (s2 := 0) ⟨hx, hb, hml, hown, hts⟩ (k_X3_within l D cI cT w sg.heap.size p 65 90 ) (va_cwS 3 hts gX3_inCase_X3_within rfl rfl rfl (by decide +kernel) ⟨Nat.le_of_ble_eq_true rfl, Nat.le_of_ble_eq_true rfl⟩) gK_ok hK hW hS hA rfl hl.1 rfl (Nat.le_of_ble_eq_true rfl) dX3_inCase_62 ⟨Nat.le_of_ble_eq_true rfl, Nat.le_of_ble_eq_true rfl⟩ rfl rfl (fun r_62 w_62 H locs hp_62 hW hz hS => ?_)
    obtain ⟨q_r, q_w⟩ := hp_62
    subst r_62
    subst w_62
    refine lv_if_ne (tgt := 88) hx hb dX3_inCase_65 (by decide) (fun c_65 => ?_) (fun c_65 => ?_)
    ·
      have c_65 := j_bn c_65
      refine lv_iload_n hx hb dX3_inCase_88 rfl (lv_at hl 0 rfl) ?_
      refine lv_bipush (v := 32) hx hb dX3_inCase_89 (by decide) ?_
      refine lv_iadd hx hb dX3_inCase_91 ?_
      refine lv_goto (tgt := 109) hx hb dX3_inCase_92 (by decide) ?_
      refine wd_iret hx hb hr hlocks hW hS dX3_inCase_109 ?_
      exact ⟨by rw [if_neg c_1, j_le, if_pos (Or.inl c_65)], rfl⟩
    ·
      have c_65 := j_b0 c_65
      refine lv_iload_n hx hb dX3_inCase_68 rfl (lv_at hl 0 rfl) ?_
      refine lv_sipush (v := 192) hx hb dX3_inCase_69 (by decide) ?_
      refine lv_sipush (v := 222) hx hb dX3_inCase_72 (by decide) ?_
      refine wd_callSi (As := [.int p, .int 192, .int 222]) (rest := []) (c2 := 0) (s2 := 0) ⟨hx, hb, hml, hown, hts⟩ (k_X3_within l D cI cT w H.size p 192 222 ) (va_cwS 3 hts gX3_inCase_X3_within rfl rfl rfl (by decide +kernel) ⟨Nat.le_of_ble_eq_true rfl, Nat.le_of_ble_eq_true rfl⟩) gK_ok hK hW hS hA rfl hl.1 rfl (Nat.le_of_ble_eq_true rfl) dX3_inCase_75 ⟨Nat.le_of_ble_eq_true rfl, Nat.le_of_ble_eq_true rfl⟩ rfl rfl (fun r_75 w_75 H locs hp_75 hW hz hS => ?_)
      obtain ⟨q_r, q_w⟩ := hp_75
      subst r_75
      subst w_75
      refine lv_if_eq (tgt := 95) hx hb dX3_inCase_78 (by decide) (fun c_78 => ?_) (fun c_78 => ?_)
      ·
        have c_78 := j_b0 c_78
        refine lv_iload_n hx hb dX3_inCase_95 rfl (lv_at hl 0 rfl) ?_
        refine lv_sipush (v := 376) hx hb dX3_inCase_96 (by decide) ?_
        refine lv_icmp_ne (tgt := 108) hx hb dX3_inCase_99 (by decide) (fun c_99 => ?_) (fun c_99 => ?_)
        ·
          refine lv_iload_n hx hb dX3_inCase_108 rfl (lv_at hl 0 rfl) ?_
          refine wd_iret hx hb hr hlocks hW hS dX3_inCase_109 ?_
          exact ⟨by rw [if_neg c_1, j_le, if_neg (not_or.mpr ⟨c_65, fun q => c_78 ⟨q.1, q.2.1⟩⟩), if_neg c_99], rfl⟩
        ·
          refine lv_sipush (v := 255) hx hb dX3_inCase_102 (by decide) ?_
          refine lv_goto (tgt := 109) hx hb dX3_inCase_105 (by decide) ?_
          refine wd_iret hx hb hr hlocks hW hS dX3_inCase_109 ?_
          exact ⟨by rw [if_neg c_1, j_le, if_neg (not_or.mpr ⟨c_65, fun q => c_78 ⟨q.1, q.2.1⟩⟩), if_pos c_99], rfl⟩
      ·
        have c_78 := j_bn c_78
        refine lv_iload_n hx hb dX3_inCase_81 rfl (lv_at hl 0 rfl) ?_
        refine lv_sipush (v := 215) hx hb dX3_inCase_82 (by decide) ?_
        refine lv_icmp_eq (tgt := 95) hx hb dX3_inCase_85 (by decide) (fun c_85 => ?_) (fun c_85 => ?_)
        ·
          refine lv_iload_n hx hb dX3_inCase_95 rfl (lv_at hl 0 rfl) ?_
          refine lv_sipush (v := 376) hx hb dX3_inCase_96 (by decide) ?_
          refine lv_icmp_ne (tgt := 108) hx hb dX3_inCase_99 (by decide) (fun c_99 => ?_) (fun c_99 => ?_)
          ·
            refine lv_iload_n hx hb dX3_inCase_108 rfl (lv_at hl 0 rfl) ?_
            refine wd_iret hx hb hr hlocks hW hS dX3_inCase_109 ?_
            exact ⟨by rw [if_neg c_1, j_le, if_neg (not_or.mpr ⟨c_65, fun q => q.2.2 c_85⟩), if_neg c_99], rfl⟩
          ·
            refine lv_sipush (v := 255) hx hb dX3_inCase_102 (by decide) ?_
            refine lv_goto (tgt := 109) hx hb dX3_inCase_105 (by decide) ?_
            refine wd_iret hx hb hr hlocks hW hS dX3_inCase_109 ?_
            exact ⟨by rw [if_neg c_1, j_le, if_neg (not_or.mpr ⟨c_65, fun q => q.2.2 c_85⟩), if_pos c_99], rfl⟩
        ·
          refine lv_iload_n hx hb dX3_inCase_88 rfl (lv_at hl 0 rfl) ?_
          refine lv_bipush (v := 32) hx hb dX3_inCase_89 (by decide) ?_
          refine lv_iadd hx hb dX3_inCase_91 ?_
          refine lv_goto (tgt := 109) hx hb dX3_inCase_92 (by decide) ?_
          refine wd_iret hx hb hr hlocks hW hS dX3_inCase_109 ?_
          exact ⟨by rw [if_neg c_1, j_le, if_pos (Or.inr ⟨c_78.1, c_78.2, c_85⟩)], rfl⟩
  ·
    refine lv_iload_n hx hb dX3_inCase_4 rfl (lv_at hl 0 rfl) ?_
    refine lv_bipush (v := 97) hx hb dX3_inCase_5 (by decide) ?_
    refine lv_bipush (v := 122) hx hb dX3_inCase_7 (by decide) ?_
    refine wd_callSi (As := [.int p, .int 97, .int 122]) (rest := []) (c2 := 0) (s2 := 0) ⟨hx, hb, hml, hown, hts⟩ (k_X3_within l D cI cT w sg.heap.size p 97 122 ) (va_cwS 3 hts gX3_inCase_X3_within rfl rfl rfl (by decide +kernel) ⟨Nat.le_of_ble_eq_true rfl, Nat.le_of_ble_eq_true rfl⟩) gK_ok hK hW hS hA rfl hl.1 rfl (Nat.le_of_ble_eq_true rfl) dX3_inCase_9 ⟨Nat.le_of_ble_eq_true rfl, Nat.le_of_ble_eq_true rfl⟩ rfl rfl (fun r_9 w_9 H locs hp_9 hW hz hS => ?_)
    obtain ⟨q_r, q_w⟩ := hp_9
    subst r_9
    subst w_9
    refine lv_if_ne (tgt := 35) hx hb dX3_inCase_12 (by decide) (fun c_12 => ?_) (fun c_12 => ?_)
    ·
      have c_12 := j_bn c_12
      refine lv_iload_n hx hb dX3_inCase_35 rfl (lv_at hl 0 rfl) ?_
      refine lv_bipush (v := 32) hx hb dX3_inCase_36 (by decide) ?_
      refine lv_isub hx hb dX3_inCase_38 ?_
      refine lv_goto (tgt := 56) hx hb dX3_inCase_39 (by decide) ?_
      refine wd_iret hx hb hr hlocks hW hS dX3_inCase_56 ?_
      exact ⟨by rw [if_pos c_1, j_gr, if_pos (Or.inl c_12)], rfl⟩
    ·
      have c_12 := j_b0 c_12
      refine lv_iload_n hx hb dX3_inCase_15 rfl (lv_at hl 0 rfl) ?_
      refine lv_sipush (v := 224) hx hb dX3_inCase_16 (by decide) ?_
      refine lv_sipush (v := 254) hx hb dX3_inCase_19 (by decide) ?_
      refine wd_callSi (As := [.int p, .int 224, .int 254]) (rest := []) (c2 := 0) (s2 := 0) ⟨hx, hb, hml, hown, hts⟩ (k_X3_within l D cI cT w H.size p 224 254 ) (va_cwS 3 hts gX3_inCase_X3_within rfl rfl rfl (by decide +kernel) ⟨Nat.le_of_ble_eq_true rfl, Nat.le_of_ble_eq_true rfl⟩) gK_ok hK hW hS hA rfl hl.1 rfl (Nat.le_of_ble_eq_true rfl) dX3_inCase_22 ⟨Nat.le_of_ble_eq_true rfl, Nat.le_of_ble_eq_true rfl⟩ rfl rfl (fun r_22 w_22 H locs hp_22 hW hz hS => ?_)
      obtain ⟨q_r, q_w⟩ := hp_22
      subst r_22
      subst w_22
      refine lv_if_eq (tgt := 42) hx hb dX3_inCase_25 (by decide) (fun c_25 => ?_) (fun c_25 => ?_)
      ·
        have c_25 := j_b0 c_25
        refine lv_iload_n hx hb dX3_inCase_42 rfl (lv_at hl 0 rfl) ?_
        refine lv_sipush (v := 255) hx hb dX3_inCase_43 (by decide) ?_
        refine lv_icmp_ne (tgt := 55) hx hb dX3_inCase_46 (by decide) (fun c_46 => ?_) (fun c_46 => ?_)
        ·
          refine lv_iload_n hx hb dX3_inCase_55 rfl (lv_at hl 0 rfl) ?_
          refine wd_iret hx hb hr hlocks hW hS dX3_inCase_56 ?_
          exact ⟨by rw [if_pos c_1, j_gr, if_neg (not_or.mpr ⟨c_12, fun q => c_25 ⟨q.1, q.2.1⟩⟩), if_neg c_46], rfl⟩
        ·
          refine lv_sipush (v := 376) hx hb dX3_inCase_49 (by decide) ?_
          refine lv_goto (tgt := 56) hx hb dX3_inCase_52 (by decide) ?_
          refine wd_iret hx hb hr hlocks hW hS dX3_inCase_56 ?_
          exact ⟨by rw [if_pos c_1, j_gr, if_neg (not_or.mpr ⟨c_12, fun q => c_25 ⟨q.1, q.2.1⟩⟩), if_pos c_46], rfl⟩
      ·
        have c_25 := j_bn c_25
        refine lv_iload_n hx hb dX3_inCase_28 rfl (lv_at hl 0 rfl) ?_
        refine lv_sipush (v := 247) hx hb dX3_inCase_29 (by decide) ?_
        refine lv_icmp_eq (tgt := 42) hx hb dX3_inCase_32 (by decide) (fun c_32 => ?_) (fun c_32 => ?_)
        ·
          refine lv_iload_n hx hb dX3_inCase_42 rfl (lv_at hl 0 rfl) ?_
          refine lv_sipush (v := 255) hx hb dX3_inCase_43 (by decide) ?_
          refine lv_icmp_ne (tgt := 55) hx hb dX3_inCase_46 (by decide) (fun c_46 => ?_) (fun c_46 => ?_)
          ·
            refine lv_iload_n hx hb dX3_inCase_55 rfl (lv_at hl 0 rfl) ?_
            refine wd_iret hx hb hr hlocks hW hS dX3_inCase_56 ?_
            exact ⟨by rw [if_pos c_1, j_gr, if_neg (not_or.mpr ⟨c_12, fun q => q.2.2 c_32⟩), if_neg c_46], rfl⟩
          ·
            refine lv_sipush (v := 376) hx hb dX3_inCase_49 (by decide) ?_
            refine lv_goto (tgt := 56) hx hb dX3_inCase_52 (by decide) ?_
            refine wd_iret hx hb hr hlocks hW hS dX3_inCase_56 ?_
            exact ⟨by rw [if_pos c_1, j_gr, if_neg (not_or.mpr ⟨c_12, fun q => q.2.2 c_32⟩), if_pos c_46], rfl⟩
        ·
          refine lv_iload_n hx hb dX3_inCase_35 rfl (lv_at hl 0 rfl) ?_
          refine lv_bipush (v := 32) hx hb dX3_inCase_36 (by decide) ?_
          refine lv_isub hx hb dX3_inCase_38 ?_
          refine lv_goto (tgt := 56) hx hb dX3_inCase_39 (by decide) ?_
          refine wd_iret hx hb hr hlocks hW hS dX3_inCase_56 ?_
          exact ⟨by rw [if_pos c_1, j_gr, if_pos (Or.inr ⟨c_25.1, c_25.2, c_32⟩)], rfl⟩
set_option maxHeartbeats 4000000 in
set_option maxRecDepth 100000 in
theorem k_X3_longOf (l : Launch) (D : va_G) (cI cT : ClassId) (w : Wd) (sz : Nat) (b : Int32) : wd_Mi l D vwCl (gK D cI cT) yX3_longOf wsX3_longOf (wd_rm 1 0 0) [.int b] w sz (fun r w' => r = j_bc b ∧ w' = w) := by
  refine wd_met (cc := cX3_longOf) (maxL := 1) (ret := (some .int)) (by decide) rfl (Nat.le_of_ble_eq_true rfl) ?_
  intro pg ev sg mi bl mt cde ls C0 hsz hK hW hl
  obtain ⟨hx, hb, hr, hml, hown, hts, hlocks, hnm⟩ := C0
  subst hsz
  have hown : sg.vm.findClass RX3 = some mi.cls := hown
  have hS : va_S (wd_A w sg.heap.size) sg.heap sg.heap [] := va_S.rf
  have hA : ∀ q, sg.heap.size ≤ q → wd_A w sg.heap.size q := fun q h => Or.inr h
  have hl : lv_has ls 1 [(0, .int b)] := hl
  refine lv_iload_n hx hb dX3_longOf_0 rfl (lv_at hl 0 rfl) ?_
  refine lv_sipush (v := 128) hx hb dX3_longOf_1 (by decide) ?_
  refine lv_icmp_ge (tgt := 11) hx hb dX3_longOf_4 (by decide) (fun c_4 => ?_) (fun c_4 => ?_)
  ·
    simp only [i_le, Decidable.not_not] at c_4
    refine lv_iload_n hx hb dX3_longOf_11 rfl (lv_at hl 0 rfl) ?_
    refine lv_sipush (v := 194) hx hb dX3_longOf_12 (by decide) ?_
    refine lv_sipush (v := 223) hx hb dX3_longOf_15 (by decide) ?_
    refine wd_callSi (As := [.int b, .int 194, .int 223]) (rest := []) (c2 := 0) (s2 := 0) ⟨hx, hb, hml, hown, hts⟩ (k_X3_within l D cI cT w sg.heap.size b 194 223 ) (va_cwS 3 hts gX3_longOf_X3_within rfl rfl rfl (by decide +kernel) ⟨Nat.le_of_ble_eq_true rfl, Nat.le_of_ble_eq_true rfl⟩) gK_ok hK hW hS hA rfl hl.1 rfl (Nat.le_of_ble_eq_true rfl) dX3_longOf_18 ⟨Nat.le_of_ble_eq_true rfl, Nat.le_of_ble_eq_true rfl⟩ rfl rfl (fun r_18 w_18 H locs hp_18 hW hz hS => ?_)
    obtain ⟨q_r, q_w⟩ := hp_18
    subst r_18
    subst w_18
    refine lv_if_eq (tgt := 28) hx hb dX3_longOf_21 (by decide) (fun c_21 => ?_) (fun c_21 => ?_)
    ·
      have c_21 := j_b0 c_21
      refine lv_iload_n hx hb dX3_longOf_28 rfl (lv_at hl 0 rfl) ?_
      refine lv_sipush (v := 224) hx hb dX3_longOf_29 (by decide) ?_
      refine lv_sipush (v := 239) hx hb dX3_longOf_32 (by decide) ?_
      refine wd_callSi (As := [.int b, .int 224, .int 239]) (rest := []) (c2 := 0) (s2 := 0) ⟨hx, hb, hml, hown, hts⟩ (k_X3_within l D cI cT w H.size b 224 239 ) (va_cwS 3 hts gX3_longOf_X3_within rfl rfl rfl (by decide +kernel) ⟨Nat.le_of_ble_eq_true rfl, Nat.le_of_ble_eq_true rfl⟩) gK_ok hK hW hS hA rfl hl.1 rfl (Nat.le_of_ble_eq_true rfl) dX3_longOf_35 ⟨Nat.le_of_ble_eq_true rfl, Nat.le_of_ble_eq_true rfl⟩ rfl rfl (fun r_35 w_35 H locs hp_35 hW hz hS => ?_)
      obtain ⟨q_r, q_w⟩ := hp_35
      subst r_35
      subst w_35
      refine lv_if_eq (tgt := 45) hx hb dX3_longOf_38 (by decide) (fun c_38 => ?_) (fun c_38 => ?_)
      ·
        have c_38 := j_b0 c_38
        refine lv_iload_n hx hb dX3_longOf_45 rfl (lv_at hl 0 rfl) ?_
        refine lv_sipush (v := 240) hx hb dX3_longOf_46 (by decide) ?_
        refine lv_sipush (v := 244) hx hb dX3_longOf_49 (by decide) ?_
        refine wd_callSi (As := [.int b, .int 240, .int 244]) (rest := []) (c2 := 0) (s2 := 0) ⟨hx, hb, hml, hown, hts⟩ (k_X3_within l D cI cT w H.size b 240 244 ) (va_cwS 3 hts gX3_longOf_X3_within rfl rfl rfl (by decide +kernel) ⟨Nat.le_of_ble_eq_true rfl, Nat.le_of_ble_eq_true rfl⟩) gK_ok hK hW hS hA rfl hl.1 rfl (Nat.le_of_ble_eq_true rfl) dX3_longOf_52 ⟨Nat.le_of_ble_eq_true rfl, Nat.le_of_ble_eq_true rfl⟩ rfl rfl (fun r_52 w_52 H locs hp_52 hW hz hS => ?_)
        obtain ⟨q_r, q_w⟩ := hp_52
        subst r_52
        subst w_52
        refine lv_if_eq (tgt := 62) hx hb dX3_longOf_55 (by decide) (fun c_55 => ?_) (fun c_55 => ?_)
        ·
          have c_55 := j_b0 c_55
          refine lv_iconst (v := 0) hx hb dX3_longOf_62 (by decide) ?_
          refine wd_iret hx hb hr hlocks hW hS dX3_longOf_63 ?_
          refine ⟨?_, rfl⟩
          simp only [i_le, i_lt, show (128 : Int32).toInt = 128 from rfl, show (194 : Int32).toInt = 194 from rfl, show (223 : Int32).toInt = 223 from rfl, show (224 : Int32).toInt = 224 from rfl, show (239 : Int32).toInt = 239 from rfl, show (240 : Int32).toInt = 240 from rfl, show (244 : Int32).toInt = 244 from rfl] at c_4 c_21 c_38 c_55
          simp only [j_bc, i_lt, show (128 : Int32).toInt = 128 from rfl, show (194 : Int32).toInt = 194 from rfl, show (223 : Int32).toInt = 223 from rfl, show (224 : Int32).toInt = 224 from rfl, show (239 : Int32).toInt = 239 from rfl, show (240 : Int32).toInt = 240 from rfl, show (244 : Int32).toInt = 244 from rfl]
          repeat' split
          all_goals first | rfl | (exfalso; omega)
        ·
          have c_55 := j_bn c_55
          refine lv_iconst (v := 4) hx hb dX3_longOf_58 (by decide) ?_
          refine lv_goto (tgt := 63) hx hb dX3_longOf_59 (by decide) ?_
          refine wd_iret hx hb hr hlocks hW hS dX3_longOf_63 ?_
          refine ⟨?_, rfl⟩
          simp only [i_le, i_lt, show (128 : Int32).toInt = 128 from rfl, show (194 : Int32).toInt = 194 from rfl, show (223 : Int32).toInt = 223 from rfl, show (224 : Int32).toInt = 224 from rfl, show (239 : Int32).toInt = 239 from rfl, show (240 : Int32).toInt = 240 from rfl, show (244 : Int32).toInt = 244 from rfl] at c_4 c_21 c_38 c_55
          simp only [j_bc, i_lt, show (128 : Int32).toInt = 128 from rfl, show (194 : Int32).toInt = 194 from rfl, show (223 : Int32).toInt = 223 from rfl, show (224 : Int32).toInt = 224 from rfl, show (239 : Int32).toInt = 239 from rfl, show (240 : Int32).toInt = 240 from rfl, show (244 : Int32).toInt = 244 from rfl]
          repeat' split
          all_goals first | rfl | (exfalso; omega)
      ·
        have c_38 := j_bn c_38
        refine lv_iconst (v := 3) hx hb dX3_longOf_41 (by decide) ?_
        refine lv_goto (tgt := 63) hx hb dX3_longOf_42 (by decide) ?_
        refine wd_iret hx hb hr hlocks hW hS dX3_longOf_63 ?_
        refine ⟨?_, rfl⟩
        simp only [i_le, i_lt, show (128 : Int32).toInt = 128 from rfl, show (194 : Int32).toInt = 194 from rfl, show (223 : Int32).toInt = 223 from rfl, show (224 : Int32).toInt = 224 from rfl, show (239 : Int32).toInt = 239 from rfl, show (240 : Int32).toInt = 240 from rfl, show (244 : Int32).toInt = 244 from rfl] at c_4 c_21 c_38
        simp only [j_bc, i_lt, show (128 : Int32).toInt = 128 from rfl, show (194 : Int32).toInt = 194 from rfl, show (223 : Int32).toInt = 223 from rfl, show (224 : Int32).toInt = 224 from rfl, show (239 : Int32).toInt = 239 from rfl, show (240 : Int32).toInt = 240 from rfl, show (244 : Int32).toInt = 244 from rfl]
        repeat' split
        all_goals first | rfl | (exfalso; omega)
    ·
      have c_21 := j_bn c_21
      refine lv_iconst (v := 2) hx hb dX3_longOf_24 (by decide) ?_
      refine lv_goto (tgt := 63) hx hb dX3_longOf_25 (by decide) ?_
      refine wd_iret hx hb hr hlocks hW hS dX3_longOf_63 ?_
      refine ⟨?_, rfl⟩
      simp only [i_le, i_lt, show (128 : Int32).toInt = 128 from rfl, show (194 : Int32).toInt = 194 from rfl, show (223 : Int32).toInt = 223 from rfl, show (224 : Int32).toInt = 224 from rfl, show (239 : Int32).toInt = 239 from rfl, show (240 : Int32).toInt = 240 from rfl, show (244 : Int32).toInt = 244 from rfl] at c_4 c_21
      simp only [j_bc, i_lt, show (128 : Int32).toInt = 128 from rfl, show (194 : Int32).toInt = 194 from rfl, show (223 : Int32).toInt = 223 from rfl, show (224 : Int32).toInt = 224 from rfl, show (239 : Int32).toInt = 239 from rfl, show (240 : Int32).toInt = 240 from rfl, show (244 : Int32).toInt = 244 from rfl]
      repeat' split
      all_goals first | rfl | (exfalso; omega)
  ·
    simp only [i_le, Decidable.not_not] at c_4
    refine lv_iconst (v := 1) hx hb dX3_longOf_7 (by decide) ?_
    refine lv_goto (tgt := 63) hx hb dX3_longOf_8 (by decide) ?_
    refine wd_iret hx hb hr hlocks hW hS dX3_longOf_63 ?_
    refine ⟨?_, rfl⟩
    simp only [i_le, i_lt, show (128 : Int32).toInt = 128 from rfl, show (194 : Int32).toInt = 194 from rfl, show (223 : Int32).toInt = 223 from rfl, show (224 : Int32).toInt = 224 from rfl, show (239 : Int32).toInt = 239 from rfl, show (240 : Int32).toInt = 240 from rfl, show (244 : Int32).toInt = 244 from rfl] at c_4
    simp only [j_bc, i_lt, show (128 : Int32).toInt = 128 from rfl, show (194 : Int32).toInt = 194 from rfl, show (223 : Int32).toInt = 223 from rfl, show (224 : Int32).toInt = 224 from rfl, show (239 : Int32).toInt = 239 from rfl, show (240 : Int32).toInt = 240 from rfl, show (244 : Int32).toInt = 244 from rfl]
    repeat' split
    all_goals first | rfl | (exfalso; omega)
set_option maxHeartbeats 4000000 in
set_option maxRecDepth 100000 in
theorem k_X3_wantsPoints (l : Launch) (D : va_G) (cI cT : ClassId) (w : Wd) (sz : Nat) (m : Nat) (A : Nat → Nat) (fK : Nat → Int32) (fM : Nat → Int32) (fI : Nat → Int32) (kc : Nat) (cd : Int32) (pl : Int32) (XD : Rw) (XP : Rw) (XU : Rw) (XO : Rw) (XB : Rw) (tx : Nat → Option Nat) (rs : Rws) (tN : Nat) (hR : rW cI m A (fun t => oI (tx t)) fK (fun r => (rs r).1) fM fI kc cd pl XD XP XU XO XB w) (htN : tN < 10) (hlv : ∀ t r, tx t = some r → r < 24) (hok : ∀ t r, tx t = some r → rOK (rs r)) : wd_Mi l D vwCl (gK D cI cT) yX3_wantsPoints wsX3_wantsPoints (wd_rm 1 0 0) [.ref m, .int (nI tN)] w sz (fun q w' => q = u_wp rs (tx tN) ∧ w' = w) := by
  refine wd_met (cc := cX3_wantsPoints) (maxL := 2) (ret := (some .int)) (by decide) rfl (Nat.le_of_ble_eq_true rfl) ?_
  intro pg ev sg mi bl mt cde ls C0 hsz hK hW hl
  obtain ⟨hx, hb, hr, hml, hown, hts, hlocks, hnm⟩ := C0
  subst hsz
  have hown : sg.vm.findClass RX3 = some mi.cls := hown
  have hS : va_S (wd_A w sg.heap.size) sg.heap sg.heap [] := va_S.rf
  have hA : ∀ q, sg.heap.size ≤ q → wd_A w sg.heap.size q := fun q h => Or.inr h
  have hl : lv_has ls 2 [(0, .ref m), (1, .int (nI tN))] := hl
  refine lv_aload_n hx hb dX3_wantsPoints_0 rfl (lv_at hl 0 rfl) ?_
  refine lv_iload_n hx hb dX3_wantsPoints_1 rfl (lv_at hl 1 rfl) ?_
  refine wd_callVi (As := [.int (nI tN)]) (rest := []) (c2 := 0) (s2 := 0) ⟨hx, hb, hml, hown, hts⟩ (k_X3_sortOf l D cI cT w sg.heap.size m A fK fM fI kc cd pl XD XP XU XO XB tx rs tN hR (by omega) hlv) (cwV 1 hts gX3_wantsPoints_X3_sortOf rfl rfl rfl (by decide +kernel) ⟨Nat.le_of_ble_eq_true rfl, Nat.le_of_ble_eq_true rfl⟩) gK_ok hK hW (wd_recv (ci := 3) hK.1 hW rfl hR.1) hS hA rfl hl.1 rfl (Nat.le_of_ble_eq_true rfl) dX3_wantsPoints_2 ⟨Nat.le_of_ble_eq_true rfl, Nat.le_of_ble_eq_true rfl⟩ rfl rfl (fun r_2 w_2 H locs hp_2 hW hz hS => ?_)
  obtain ⟨q_r, q_w⟩ := hp_2
  subst r_2
  subst w_2
  cases htx_2 : tx tN with
  | none =>
    refine wd_topE (y := -1) rfl ?_
    refine lv_iconst (v := (-1)) hx hb dX3_wantsPoints_5 (by decide) ?_
    refine lv_icmp_ne (tgt := 13) hx hb dX3_wantsPoints_6 (by decide) (fun c_6 => ?_) (fun c_6 => ?_)
    ·
      exact absurd rfl c_6
    ·
      refine lv_iconst (v := 1) hx hb dX3_wantsPoints_9 (by decide) ?_
      refine lv_goto (tgt := 27) hx hb dX3_wantsPoints_10 (by decide) ?_
      refine wd_iret hx hb hr hlocks hW hS dX3_wantsPoints_27 ?_
      exact ⟨rfl, rfl⟩
  | some r_2 =>
    refine wd_topE (y := (rs r_2).1) rfl ?_
    have hr24_2 := hlv _ _ htx_2
    refine lv_iconst (v := (-1)) hx hb dX3_wantsPoints_5 (by decide) ?_
    refine lv_icmp_ne (tgt := 13) hx hb dX3_wantsPoints_6 (by decide) (fun c_6 => ?_) (fun c_6 => ?_)
    ·
      refine lv_aload_n hx hb dX3_wantsPoints_13 rfl (lv_at hl 0 rfl) ?_
      refine lv_iload_n hx hb dX3_wantsPoints_14 rfl (lv_at hl 1 rfl) ?_
      refine wd_callVi (As := [.int (nI tN)]) (rest := []) (c2 := 0) (s2 := 0) ⟨hx, hb, hml, hown, hts⟩ (k_X3_sortOf l D cI cT w H.size m A fK fM fI kc cd pl XD XP XU XO XB tx rs tN hR (by omega) hlv) (cwV 1 hts gX3_wantsPoints_X3_sortOf rfl rfl rfl (by decide +kernel) ⟨Nat.le_of_ble_eq_true rfl, Nat.le_of_ble_eq_true rfl⟩) gK_ok hK hW (wd_recv (ci := 3) hK.1 hW rfl hR.1) hS hA rfl hl.1 rfl (Nat.le_of_ble_eq_true rfl) dX3_wantsPoints_15 ⟨Nat.le_of_ble_eq_true rfl, Nat.le_of_ble_eq_true rfl⟩ rfl rfl (fun r_15 w_15 H locs hp_15 hW hz hS => ?_)
      obtain ⟨q_r, q_w⟩ := hp_15
      subst r_15
      subst w_15
      refine wd_topE (y := (rs r_2).1) (by rw [htx_2]; rfl) ?_
      refine lv_iconst (v := 2) hx hb dX3_wantsPoints_18 (by decide) ?_
      refine lv_icmp_ne (tgt := 26) hx hb dX3_wantsPoints_19 (by decide) (fun c_19 => ?_) (fun c_19 => ?_)
      ·
        refine lv_iconst (v := 0) hx hb dX3_wantsPoints_26 (by decide) ?_
        refine wd_iret hx hb hr hlocks hW hS dX3_wantsPoints_27 ?_
        exact ⟨by show _ = (if (rs r_2).1 = 2 then _ else _); rw [if_neg c_19], rfl⟩
      ·
        refine lv_iconst (v := 2) hx hb dX3_wantsPoints_22 (by decide) ?_
        refine lv_goto (tgt := 27) hx hb dX3_wantsPoints_23 (by decide) ?_
        refine wd_iret hx hb hr hlocks hW hS dX3_wantsPoints_27 ?_
        exact ⟨by show _ = (if (rs r_2).1 = 2 then _ else _); rw [if_pos c_19], rfl⟩
    ·
      exact absurd c_6 (hok _ _ htx_2).nm1
set_option maxHeartbeats 4000000 in
set_option maxRecDepth 100000 in
theorem k_X3_addByte (l : Launch) (D : va_G) (cI cT : ClassId) (w : Wd) (sz : Nat) (m : Nat) (A : Nat → Nat) (fT : Nat → Int32) (fK : Nat → Int32) (fS : Nat → Int32) (fM : Nat → Int32) (fI : Nat → Int32) (kc : Nat) (cd : Int32) (pl : Int32) (XD : Rw) (XP : Rw) (XU : Rw) (XO : Rw) (XB : Rw) (v : Int32) (hR : rW cI m A fT fK fS fM fI kc cd pl XD XP XU XO XB w) (hb_ : XB.2 < 480) : wd_Mv l D vwCl (gK D cI cT) yX3_addByte wsX3_addByte (wd_rm 0 0 0) [.ref m, .int v] w sz (fun w' => rW cI m A fT fK fS fM fI kc cd pl XD XP XU XO (r_add 480 v XB) w') := by
  refine wd_met (cc := cX3_addByte) (maxL := 2) (ret := none) (by decide) rfl (Nat.le_of_ble_eq_true rfl) ?_
  intro pg ev sg mi bl mt cde ls C0 hsz hK hW hl
  obtain ⟨hx, hb, hr, hml, hown, hts, hlocks, hnm⟩ := C0
  subst hsz
  have hown : sg.vm.findClass RX3 = some mi.cls := hown
  have hS : va_S (wd_A w sg.heap.size) sg.heap sg.heap [] := va_S.rf
  have hA : ∀ q, sg.heap.size ≤ q → wd_A w sg.heap.size q := fun q h => Or.inr h
  have hl : lv_has ls 2 [(0, .ref m), (1, .int v)] := hl
  refine lv_aload_n hx hb dX3_addByte_0 rfl (lv_at hl 0 rfl) ?_
  refine wd_get (ci := 3) (v := .ref (A 9)) (C := RX3) (T := TX3) (N := 18) hx hb hts (by decide +kernel) hown hK.1 hW hR.1 rfl 17 (by decide) (hts (.fieldLink RX3 41 "CharRowsModel" "bytes" "[I") (by decide +kernel)) (fun _ h9 => h9) rfl dX3_addByte_1 ?_
  refine lv_aload_n hx hb dX3_addByte_4 rfl (lv_at hl 0 rfl) ?_
  refine wd_get (ci := 3) (v := .int (nI XB.2)) (C := RX3) (T := TX3) (N := 18) hx hb hts (by decide +kernel) hown hK.1 hW hR.1 rfl 16 (by decide) (hts (.fieldLink RX3 125 "CharRowsModel" "bytesMany" "I") (by decide +kernel)) (fun _ h9 => h9) rfl dX3_addByte_5 ?_
  refine lv_iload_n hx hb dX3_addByte_8 rfl (lv_at hl 1 rfl) ?_
  refine wd_iast hx hb hK.1 hW hS 0 hR.2.2.2.2.2.2.2.2.2.2.1 rfl (vp_in_nI (by omega) (by omega)) dX3_addByte_9 (fun H locs hW hS => ?_)
  rw [nI_clamp (by omega)] at hW
  obtain ⟨w_v1, hW, hR⟩ : ∃ w', wd_P D vwCl (wd_A w sg.heap.size) w' H ∧ rW cI m A fT fK fS fM fI kc cd pl XD XP XU XO ((upd XB.1 XB.2 v), XB.2) w' := ⟨_, hW, hR.aXB (upd XB.1 XB.2 v)⟩
  refine lv_aload_n hx hb dX3_addByte_10 rfl (lv_at hl 0 rfl) ?_
  refine lv_dup hx hb dX3_addByte_11 rfl ?_
  refine wd_get (ci := 3) (v := .int (nI XB.2)) (C := RX3) (T := TX3) (N := 18) hx hb hts (by decide +kernel) hown hK.1 hW hR.1 rfl 16 (by decide) (hts (.fieldLink RX3 125 "CharRowsModel" "bytesMany" "I") (by decide +kernel)) (fun _ h9 => h9) rfl dX3_addByte_12 ?_
  refine lv_iconst (v := 1) hx hb dX3_addByte_15 (by decide) ?_
  refine lv_iadd hx hb dX3_addByte_16 ?_
  refine wd_topE (y := nI (XB.2 + 1)) (nI_1 _) ?_
  refine wd_put (ci := 3) (v := .int (nI (XB.2 + 1))) (ty := .int) (C := RX3) (T := TX3) (N := 18) hx hb hts (by decide +kernel) tyX3 tyX3_ok nmX3 hown hK.1 hW hS hR.1 rfl 16 (by decide) (hts (.fieldLink RX3 125 "CharRowsModel" "bytesMany" "I") (by decide +kernel)) (fun _ h9 => h9) rfl (by decide +kernel) rfl rfl (Nat.le_of_ble_eq_true rfl) dX3_addByte_17 (fun H locs hW hS => ?_)
  obtain ⟨w_v2, hW, hR⟩ : ∃ w', wd_P D vwCl (wd_A w sg.heap.size) w' H ∧ rW cI m A fT fK fS fM fI kc cd pl XD XP XU XO ((upd XB.1 XB.2 v), XB.2 + 1) w' := ⟨_, hW, hR.cXB (XB.2 + 1)⟩
  refine wd_vret hx hb hr hlocks hW hS dX3_addByte_20 ?_
  show rW cI m A fT fK fS fM fI kc cd pl XD XP XU XO (r_add 480 v XB) _
  rw [r_add, if_pos hb_]
  exact hR
set_option maxHeartbeats 4000000 in
set_option maxRecDepth 100000 in
theorem k_X3_addPoint (l : Launch) (D : va_G) (cI cT : ClassId) (w : Wd) (sz : Nat) (m : Nat) (A : Nat → Nat) (fT : Nat → Int32) (fK : Nat → Int32) (fS : Nat → Int32) (fM : Nat → Int32) (fI : Nat → Int32) (kc : Nat) (cd : Int32) (pl : Int32) (XD : Rw) (XP : Rw) (XU : Rw) (XO : Rw) (XB : Rw) (p : Int32) (hR : rW cI m A fT fK fS fM fI kc cd pl XD XP XU XO XB w) (hb_ : XB.2 + 4 ≤ 480) : wd_Mv l D vwCl (gK D cI cT) yX3_addPoint wsX3_addPoint (wd_rm 1 0 0) [.ref m, .int p] w sz (fun w' => rW cI m A fT fK fS fM fI kc cd pl XD XP XU XO (r_mb 480 p XB) w') := by
  refine wd_met (cc := cX3_addPoint) (maxL := 2) (ret := none) (by decide) rfl (Nat.le_of_ble_eq_true rfl) ?_
  intro pg ev sg mi bl mt cde ls C0 hsz hK hW hl
  obtain ⟨hx, hb, hr, hml, hown, hts, hlocks, hnm⟩ := C0
  subst hsz
  have hown : sg.vm.findClass RX3 = some mi.cls := hown
  have hS : va_S (wd_A w sg.heap.size) sg.heap sg.heap [] := va_S.rf
  have hA : ∀ q, sg.heap.size ≤ q → wd_A w sg.heap.size q := fun q h => Or.inr h
  have hl : lv_has ls 2 [(0, .ref m), (1, .int p)] := hl
  refine lv_iload_n hx hb dX3_addPoint_0 rfl (lv_at hl 1 rfl) ?_
  refine lv_sipush (v := 128) hx hb dX3_addPoint_1 (by decide) ?_
  refine lv_icmp_ge (tgt := 15) hx hb dX3_addPoint_4 (by decide) (fun c_4 => ?_) (fun c_4 => ?_)
  ·
    simp only [i_le, Decidable.not_not] at c_4
    refine lv_iload_n hx hb dX3_addPoint_15 rfl (lv_at hl 1 rfl) ?_
    refine lv_sipush (v := 2048) hx hb dX3_addPoint_16 (by decide) ?_
    refine lv_icmp_ge (tgt := 49) hx hb dX3_addPoint_19 (by decide) (fun c_19 => ?_) (fun c_19 => ?_)
    ·
      simp only [i_le, Decidable.not_not] at c_19
      refine lv_iload_n hx hb dX3_addPoint_49 rfl (lv_at hl 1 rfl) ?_
      refine lv_ldc (v := 65536) hx hb hown (hts (.constant RX3 70 65536) (by decide +kernel)) dX3_addPoint_50 ?_
      refine lv_icmp_ge (tgt := 71) hx hb dX3_addPoint_52 (by decide) (fun c_52 => ?_) (fun c_52 => ?_)
      ·
        simp only [i_le, Decidable.not_not] at c_52
        refine lv_aload_n hx hb dX3_addPoint_71 rfl (lv_at hl 0 rfl) ?_
        refine lv_sipush (v := 240) hx hb dX3_addPoint_72 (by decide) ?_
        refine lv_iload_n hx hb dX3_addPoint_75 rfl (lv_at hl 1 rfl) ?_
        refine lv_ldc (v := 262144) hx hb hown (hts (.constant RX3 131 262144) (by decide +kernel)) dX3_addPoint_76 ?_
        refine lv_idiv hx hb dX3_addPoint_78 (by decide) ?_
        refine lv_iadd hx hb dX3_addPoint_79 ?_
        refine wd_callVv (As := [.int (240 + (p / 262144))]) (rest := []) (c2 := 0) (s2 := 0) ⟨hx, hb, hml, hown, hts⟩ (k_X3_addByte l D cI cT w sg.heap.size m A fT fK fS fM fI kc cd pl XD XP XU XO XB (240 + (p / 262144)) hR (by omega)) (cwV 1 hts gX3_addPoint_X3_addByte rfl rfl rfl (by decide +kernel) ⟨Nat.le_of_ble_eq_true rfl, Nat.le_of_ble_eq_true rfl⟩) gK_ok hK hW (wd_recv (ci := 3) hK.1 hW rfl hR.1) hS hA rfl hl.1 rfl (Nat.le_of_ble_eq_true rfl) dX3_addPoint_80 ⟨Nat.le_of_ble_eq_true rfl, Nat.le_of_ble_eq_true rfl⟩ rfl rfl (fun w_80 H locs hp_80 hW hz hS => ?_)
        have hR := hp_80
        have hcb_80 := r_add_cnt (n := 480) (x := 240 + (p / 262144)) (X := XB) (by omega)
        refine lv_aload_n hx hb dX3_addPoint_83 rfl (lv_at hl 0 rfl) ?_
        refine lv_sipush (v := 128) hx hb dX3_addPoint_84 (by decide) ?_
        refine lv_iload_n hx hb dX3_addPoint_87 rfl (lv_at hl 1 rfl) ?_
        refine lv_sipush (v := 4096) hx hb dX3_addPoint_88 (by decide) ?_
        refine lv_idiv hx hb dX3_addPoint_91 (by decide) ?_
        refine lv_bipush (v := 64) hx hb dX3_addPoint_92 (by decide) ?_
        refine lv_irem hx hb dX3_addPoint_94 (by decide) ?_
        refine lv_iadd hx hb dX3_addPoint_95 ?_
        refine wd_callVv (As := [.int (128 + ((p / 4096) - (p / 4096) / 64 * 64))]) (rest := []) (c2 := 0) (s2 := 0) ⟨hx, hb, hml, hown, hts⟩ (k_X3_addByte l D cI cT w_80 H.size m A fT fK fS fM fI kc cd pl XD XP XU XO (r_add 480 (240 + (p / 262144)) XB) (128 + ((p / 4096) - (p / 4096) / 64 * 64)) hR (by omega)) (cwV 1 hts gX3_addPoint_X3_addByte rfl rfl rfl (by decide +kernel) ⟨Nat.le_of_ble_eq_true rfl, Nat.le_of_ble_eq_true rfl⟩) gK_ok hK hW (wd_recv (ci := 3) hK.1 hW rfl hR.1) hS hA rfl hl.1 rfl (Nat.le_of_ble_eq_true rfl) dX3_addPoint_96 ⟨Nat.le_of_ble_eq_true rfl, Nat.le_of_ble_eq_true rfl⟩ rfl rfl (fun w_96 H locs hp_96 hW hz hS => ?_)
        have hR := hp_96
        have hcb_96 := r_add_cnt (n := 480) (x := 128 + ((p / 4096) - (p / 4096) / 64 * 64)) (X := (r_add 480 (240 + (p / 262144)) XB)) (by omega)
        refine lv_aload_n hx hb dX3_addPoint_99 rfl (lv_at hl 0 rfl) ?_
        refine lv_sipush (v := 128) hx hb dX3_addPoint_100 (by decide) ?_
        refine lv_iload_n hx hb dX3_addPoint_103 rfl (lv_at hl 1 rfl) ?_
        refine lv_bipush (v := 64) hx hb dX3_addPoint_104 (by decide) ?_
        refine lv_idiv hx hb dX3_addPoint_106 (by decide) ?_
        refine lv_bipush (v := 64) hx hb dX3_addPoint_107 (by decide) ?_
        refine lv_irem hx hb dX3_addPoint_109 (by decide) ?_
        refine lv_iadd hx hb dX3_addPoint_110 ?_
        refine wd_callVv (As := [.int (128 + ((p / 64) - (p / 64) / 64 * 64))]) (rest := []) (c2 := 0) (s2 := 0) ⟨hx, hb, hml, hown, hts⟩ (k_X3_addByte l D cI cT w_96 H.size m A fT fK fS fM fI kc cd pl XD XP XU XO (r_add 480 (128 + ((p / 4096) - (p / 4096) / 64 * 64)) (r_add 480 (240 + (p / 262144)) XB)) (128 + ((p / 64) - (p / 64) / 64 * 64)) hR (by omega)) (cwV 1 hts gX3_addPoint_X3_addByte rfl rfl rfl (by decide +kernel) ⟨Nat.le_of_ble_eq_true rfl, Nat.le_of_ble_eq_true rfl⟩) gK_ok hK hW (wd_recv (ci := 3) hK.1 hW rfl hR.1) hS hA rfl hl.1 rfl (Nat.le_of_ble_eq_true rfl) dX3_addPoint_111 ⟨Nat.le_of_ble_eq_true rfl, Nat.le_of_ble_eq_true rfl⟩ rfl rfl (fun w_111 H locs hp_111 hW hz hS => ?_)
        have hR := hp_111
        have hcb_111 := r_add_cnt (n := 480) (x := 128 + ((p / 64) - (p / 64) / 64 * 64)) (X := (r_add 480 (128 + ((p / 4096) - (p / 4096) / 64 * 64)) (r_add 480 (240 + (p / 262144)) XB))) (by omega)
        refine lv_aload_n hx hb dX3_addPoint_114 rfl (lv_at hl 0 rfl) ?_
        refine lv_sipush (v := 128) hx hb dX3_addPoint_115 (by decide) ?_
        refine lv_iload_n hx hb dX3_addPoint_118 rfl (lv_at hl 1 rfl) ?_
        refine lv_bipush (v := 64) hx hb dX3_addPoint_119 (by decide) ?_
        refine lv_irem hx hb dX3_addPoint_121 (by decide) ?_
        refine lv_iadd hx hb dX3_addPoint_122 ?_
        refine wd_callVv (As := [.int (128 + (p - p / 64 * 64))]) (rest := []) (c2 := 0) (s2 := 0) ⟨hx, hb, hml, hown, hts⟩ (k_X3_addByte l D cI cT w_111 H.size m A fT fK fS fM fI kc cd pl XD XP XU XO (r_add 480 (128 + ((p / 64) - (p / 64) / 64 * 64)) (r_add 480 (128 + ((p / 4096) - (p / 4096) / 64 * 64)) (r_add 480 (240 + (p / 262144)) XB))) (128 + (p - p / 64 * 64)) hR (by omega)) (cwV 1 hts gX3_addPoint_X3_addByte rfl rfl rfl (by decide +kernel) ⟨Nat.le_of_ble_eq_true rfl, Nat.le_of_ble_eq_true rfl⟩) gK_ok hK hW (wd_recv (ci := 3) hK.1 hW rfl hR.1) hS hA rfl hl.1 rfl (Nat.le_of_ble_eq_true rfl) dX3_addPoint_123 ⟨Nat.le_of_ble_eq_true rfl, Nat.le_of_ble_eq_true rfl⟩ rfl rfl (fun w_123 H locs hp_123 hW hz hS => ?_)
        have hR := hp_123
        have hcb_123 := r_add_cnt (n := 480) (x := 128 + (p - p / 64 * 64)) (X := (r_add 480 (128 + ((p / 64) - (p / 64) / 64 * 64)) (r_add 480 (128 + ((p / 4096) - (p / 4096) / 64 * 64)) (r_add 480 (240 + (p / 262144)) XB)))) (by omega)
        refine wd_vret hx hb hr hlocks hW hS dX3_addPoint_126 ?_
        show rW cI m A fT fK fS fM fI kc cd pl XD XP XU XO (r_mb 480 p XB) _
        rw [r_mb, if_neg c_4, if_neg c_19, if_neg c_52]
        exact hR
      ·
        simp only [i_le, Decidable.not_not] at c_52
        refine lv_aload_n hx hb dX3_addPoint_55 rfl (lv_at hl 0 rfl) ?_
        refine lv_sipush (v := 224) hx hb dX3_addPoint_56 (by decide) ?_
        refine lv_iload_n hx hb dX3_addPoint_59 rfl (lv_at hl 1 rfl) ?_
        refine lv_sipush (v := 4096) hx hb dX3_addPoint_60 (by decide) ?_
        refine lv_idiv hx hb dX3_addPoint_63 (by decide) ?_
        refine lv_iadd hx hb dX3_addPoint_64 ?_
        refine wd_callVv (As := [.int (224 + (p / 4096))]) (rest := []) (c2 := 0) (s2 := 0) ⟨hx, hb, hml, hown, hts⟩ (k_X3_addByte l D cI cT w sg.heap.size m A fT fK fS fM fI kc cd pl XD XP XU XO XB (224 + (p / 4096)) hR (by omega)) (cwV 1 hts gX3_addPoint_X3_addByte rfl rfl rfl (by decide +kernel) ⟨Nat.le_of_ble_eq_true rfl, Nat.le_of_ble_eq_true rfl⟩) gK_ok hK hW (wd_recv (ci := 3) hK.1 hW rfl hR.1) hS hA rfl hl.1 rfl (Nat.le_of_ble_eq_true rfl) dX3_addPoint_65 ⟨Nat.le_of_ble_eq_true rfl, Nat.le_of_ble_eq_true rfl⟩ rfl rfl (fun w_65 H locs hp_65 hW hz hS => ?_)
        have hR := hp_65
        have hcb_65 := r_add_cnt (n := 480) (x := 224 + (p / 4096)) (X := XB) (by omega)
        refine lv_goto (tgt := 99) hx hb dX3_addPoint_68 (by decide) ?_
        refine lv_aload_n hx hb dX3_addPoint_99 rfl (lv_at hl 0 rfl) ?_
        refine lv_sipush (v := 128) hx hb dX3_addPoint_100 (by decide) ?_
        refine lv_iload_n hx hb dX3_addPoint_103 rfl (lv_at hl 1 rfl) ?_
        refine lv_bipush (v := 64) hx hb dX3_addPoint_104 (by decide) ?_
        refine lv_idiv hx hb dX3_addPoint_106 (by decide) ?_
        refine lv_bipush (v := 64) hx hb dX3_addPoint_107 (by decide) ?_
        refine lv_irem hx hb dX3_addPoint_109 (by decide) ?_
        refine lv_iadd hx hb dX3_addPoint_110 ?_
        refine wd_callVv (As := [.int (128 + ((p / 64) - (p / 64) / 64 * 64))]) (rest := []) (c2 := 0) (s2 := 0) ⟨hx, hb, hml, hown, hts⟩ (k_X3_addByte l D cI cT w_65 H.size m A fT fK fS fM fI kc cd pl XD XP XU XO (r_add 480 (224 + (p / 4096)) XB) (128 + ((p / 64) - (p / 64) / 64 * 64)) hR (by omega)) (cwV 1 hts gX3_addPoint_X3_addByte rfl rfl rfl (by decide +kernel) ⟨Nat.le_of_ble_eq_true rfl, Nat.le_of_ble_eq_true rfl⟩) gK_ok hK hW (wd_recv (ci := 3) hK.1 hW rfl hR.1) hS hA rfl hl.1 rfl (Nat.le_of_ble_eq_true rfl) dX3_addPoint_111 ⟨Nat.le_of_ble_eq_true rfl, Nat.le_of_ble_eq_true rfl⟩ rfl rfl (fun w_111 H locs hp_111 hW hz hS => ?_)
        have hR := hp_111
        have hcb_111 := r_add_cnt (n := 480) (x := 128 + ((p / 64) - (p / 64) / 64 * 64)) (X := (r_add 480 (224 + (p / 4096)) XB)) (by omega)
        refine lv_aload_n hx hb dX3_addPoint_114 rfl (lv_at hl 0 rfl) ?_
        refine lv_sipush (v := 128) hx hb dX3_addPoint_115 (by decide) ?_
        refine lv_iload_n hx hb dX3_addPoint_118 rfl (lv_at hl 1 rfl) ?_
        refine lv_bipush (v := 64) hx hb dX3_addPoint_119 (by decide) ?_
        refine lv_irem hx hb dX3_addPoint_121 (by decide) ?_
        refine lv_iadd hx hb dX3_addPoint_122 ?_
        refine wd_callVv (As := [.int (128 + (p - p / 64 * 64))]) (rest := []) (c2 := 0) (s2 := 0) ⟨hx, hb, hml, hown, hts⟩ (k_X3_addByte l D cI cT w_111 H.size m A fT fK fS fM fI kc cd pl XD XP XU XO (r_add 480 (128 + ((p / 64) - (p / 64) / 64 * 64)) (r_add 480 (224 + (p / 4096)) XB)) (128 + (p - p / 64 * 64)) hR (by omega)) (cwV 1 hts gX3_addPoint_X3_addByte rfl rfl rfl (by decide +kernel) ⟨Nat.le_of_ble_eq_true rfl, Nat.le_of_ble_eq_true rfl⟩) gK_ok hK hW (wd_recv (ci := 3) hK.1 hW rfl hR.1) hS hA rfl hl.1 rfl (Nat.le_of_ble_eq_true rfl) dX3_addPoint_123 ⟨Nat.le_of_ble_eq_true rfl, Nat.le_of_ble_eq_true rfl⟩ rfl rfl (fun w_123 H locs hp_123 hW hz hS => ?_)
        have hR := hp_123
        have hcb_123 := r_add_cnt (n := 480) (x := 128 + (p - p / 64 * 64)) (X := (r_add 480 (128 + ((p / 64) - (p / 64) / 64 * 64)) (r_add 480 (224 + (p / 4096)) XB))) (by omega)
        refine wd_vret hx hb hr hlocks hW hS dX3_addPoint_126 ?_
        show rW cI m A fT fK fS fM fI kc cd pl XD XP XU XO (r_mb 480 p XB) _
        rw [r_mb, if_neg c_4, if_neg c_19, if_pos c_52]
        exact hR
    ·
      simp only [i_le, Decidable.not_not] at c_19
      refine lv_aload_n hx hb dX3_addPoint_22 rfl (lv_at hl 0 rfl) ?_
      refine lv_sipush (v := 192) hx hb dX3_addPoint_23 (by decide) ?_
      refine lv_iload_n hx hb dX3_addPoint_26 rfl (lv_at hl 1 rfl) ?_
      refine lv_bipush (v := 64) hx hb dX3_addPoint_27 (by decide) ?_
      refine lv_idiv hx hb dX3_addPoint_29 (by decide) ?_
      refine lv_iadd hx hb dX3_addPoint_30 ?_
      refine wd_callVv (As := [.int (192 + (p / 64))]) (rest := []) (c2 := 0) (s2 := 0) ⟨hx, hb, hml, hown, hts⟩ (k_X3_addByte l D cI cT w sg.heap.size m A fT fK fS fM fI kc cd pl XD XP XU XO XB (192 + (p / 64)) hR (by omega)) (cwV 1 hts gX3_addPoint_X3_addByte rfl rfl rfl (by decide +kernel) ⟨Nat.le_of_ble_eq_true rfl, Nat.le_of_ble_eq_true rfl⟩) gK_ok hK hW (wd_recv (ci := 3) hK.1 hW rfl hR.1) hS hA rfl hl.1 rfl (Nat.le_of_ble_eq_true rfl) dX3_addPoint_31 ⟨Nat.le_of_ble_eq_true rfl, Nat.le_of_ble_eq_true rfl⟩ rfl rfl (fun w_31 H locs hp_31 hW hz hS => ?_)
      have hR := hp_31
      have hcb_31 := r_add_cnt (n := 480) (x := 192 + (p / 64)) (X := XB) (by omega)
      refine lv_aload_n hx hb dX3_addPoint_34 rfl (lv_at hl 0 rfl) ?_
      refine lv_sipush (v := 128) hx hb dX3_addPoint_35 (by decide) ?_
      refine lv_iload_n hx hb dX3_addPoint_38 rfl (lv_at hl 1 rfl) ?_
      refine lv_bipush (v := 64) hx hb dX3_addPoint_39 (by decide) ?_
      refine lv_irem hx hb dX3_addPoint_41 (by decide) ?_
      refine lv_iadd hx hb dX3_addPoint_42 ?_
      refine wd_callVv (As := [.int (128 + (p - p / 64 * 64))]) (rest := []) (c2 := 0) (s2 := 0) ⟨hx, hb, hml, hown, hts⟩ (k_X3_addByte l D cI cT w_31 H.size m A fT fK fS fM fI kc cd pl XD XP XU XO (r_add 480 (192 + (p / 64)) XB) (128 + (p - p / 64 * 64)) hR (by omega)) (cwV 1 hts gX3_addPoint_X3_addByte rfl rfl rfl (by decide +kernel) ⟨Nat.le_of_ble_eq_true rfl, Nat.le_of_ble_eq_true rfl⟩) gK_ok hK hW (wd_recv (ci := 3) hK.1 hW rfl hR.1) hS hA rfl hl.1 rfl (Nat.le_of_ble_eq_true rfl) dX3_addPoint_43 ⟨Nat.le_of_ble_eq_true rfl, Nat.le_of_ble_eq_true rfl⟩ rfl rfl (fun w_43 H locs hp_43 hW hz hS => ?_)
      have hR := hp_43
      have hcb_43 := r_add_cnt (n := 480) (x := 128 + (p - p / 64 * 64)) (X := (r_add 480 (192 + (p / 64)) XB)) (by omega)
      refine lv_goto (tgt := 126) hx hb dX3_addPoint_46 (by decide) ?_
      refine wd_vret hx hb hr hlocks hW hS dX3_addPoint_126 ?_
      show rW cI m A fT fK fS fM fI kc cd pl XD XP XU XO (r_mb 480 p XB) _
      rw [r_mb, if_neg c_4, if_pos c_19]
      exact hR
  ·
    simp only [i_le, Decidable.not_not] at c_4
    refine lv_aload_n hx hb dX3_addPoint_7 rfl (lv_at hl 0 rfl) ?_
    refine lv_iload_n hx hb dX3_addPoint_8 rfl (lv_at hl 1 rfl) ?_
    refine wd_callVv (As := [.int p]) (rest := []) (c2 := 0) (s2 := 0) ⟨hx, hb, hml, hown, hts⟩ (k_X3_addByte l D cI cT w sg.heap.size m A fT fK fS fM fI kc cd pl XD XP XU XO XB p hR (by omega)) (cwV 1 hts gX3_addPoint_X3_addByte rfl rfl rfl (by decide +kernel) ⟨Nat.le_of_ble_eq_true rfl, Nat.le_of_ble_eq_true rfl⟩) gK_ok hK hW (wd_recv (ci := 3) hK.1 hW rfl hR.1) hS hA rfl hl.1 rfl (Nat.le_of_ble_eq_true rfl) dX3_addPoint_9 ⟨Nat.le_of_ble_eq_true rfl, Nat.le_of_ble_eq_true rfl⟩ rfl rfl (fun w_9 H locs hp_9 hW hz hS => ?_)
    have hR := hp_9
    have hcb_9 := r_add_cnt (n := 480) (x := p) (X := XB) (by omega)
    refine lv_goto (tgt := 126) hx hb dX3_addPoint_12 (by decide) ?_
    refine wd_vret hx hb hr hlocks hW hS dX3_addPoint_126 ?_
    show rW cI m A fT fK fS fM fI kc cd pl XD XP XU XO (r_mb 480 p XB) _
    rw [r_mb, if_pos c_4]
    exact hR
set_option maxHeartbeats 4000000 in
set_option maxRecDepth 100000 in
theorem k_X3_take (l : Launch) (D : va_G) (cI cT : ClassId) (w : Wd) (sz : Nat) (m : Nat) (A : Nat → Nat) (fK : Nat → Int32) (fI : Nat → Int32) (kc : Nat) (cd : Int32) (pl : Int32) (XD : Rw) (XP : Rw) (XU : Rw) (XO : Rw) (XB : Rw) (tx : Nat → Option Nat) (rs : Rws) (tN : Nat) (r : Nat) (hR : rW cI m A (fun t => oI (tx t)) fK (fun r => (rs r).1) (fun r => nI (rs r).2.length) fI kc cd pl XD XP XU XO XB w) (htN : tN < 10) (htx : tx tN = some r) (hr24 : r < 24) (hlv : ∀ t r, tx t = some r → r < 24) (hit : rIt rs fI) (hokr : rOK (rs r)) (hkd : (rs r).1 ≠ 2) : wd_Mv l D vwCl (gK D cI cT) yX3_take wsX3_take (wd_rm 3 0 0) [.ref m, .int (nI tN)] w sz (fun w' => ∃ Y Z : Rw, rl Y = u_pl (rs r).1 (rs r).2 ∧ rl Z = u_ul (rs r).1 (rs r).2 ∧ rW cI m A (fun t => oI (tx t)) fK (fun r => (rs r).1) (fun r => nI (rs r).2.length) fI kc cd pl XD Y Z XO XB w') := by
  refine wd_met (cc := cX3_take) (maxL := 3) (ret := none) (by decide) rfl (Nat.le_of_ble_eq_true rfl) ?_
  intro pg ev sg mi bl mt cde ls C0 hsz hK hW hl
  obtain ⟨hx, hb, hr, hml, hown, hts, hlocks, hnm⟩ := C0
  subst hsz
  have hown : sg.vm.findClass RX3 = some mi.cls := hown
  have hS : va_S (wd_A w sg.heap.size) sg.heap sg.heap [] := va_S.rf
  have hA : ∀ q, sg.heap.size ≤ q → wd_A w sg.heap.size q := fun q h => Or.inr h
  have hl : lv_has ls 3 [(0, .ref m), (1, .int (nI tN))] := hl
  have hl60 := hokr.len2 hkd
  refine lv_aload_n hx hb dX3_take_0 rfl (lv_at hl 0 rfl) ?_
  refine lv_iload_n hx hb dX3_take_1 rfl (lv_at hl 1 rfl) ?_
  refine wd_callVi (As := [.int (nI tN)]) (rest := []) (c2 := 0) (s2 := 0) ⟨hx, hb, hml, hown, hts⟩ (k_X3_sortOf l D cI cT w sg.heap.size m A fK (fun r => nI (rs r).2.length) fI kc cd pl XD XP XU XO XB tx rs tN hR (by omega) hlv) (cwV 1 hts gX3_take_X3_sortOf rfl rfl rfl (by decide +kernel) ⟨Nat.le_of_ble_eq_true rfl, Nat.le_of_ble_eq_true rfl⟩) gK_ok hK hW (wd_recv (ci := 3) hK.1 hW rfl hR.1) hS hA rfl hl.1 rfl (Nat.le_of_ble_eq_true rfl) dX3_take_2 ⟨Nat.le_of_ble_eq_true rfl, Nat.le_of_ble_eq_true rfl⟩ rfl rfl (fun r_2 w_2 H locs hp_2 hW hz hS => ?_)
  obtain ⟨q_r, q_w⟩ := hp_2
  subst r_2
  subst w_2
  refine wd_topE (y := (rs r).1) (by rw [htx]; rfl) ?_
  refine lv_if_ne (tgt := 52) hx hb dX3_take_5 (by decide) (fun c_5 => ?_) (fun c_5 => ?_)
  ·
    refine lv_aload_n hx hb dX3_take_52 rfl (lv_at hl 0 rfl) ?_
    refine lv_aload_n hx hb dX3_take_53 rfl (lv_at hl 0 rfl) ?_
    refine lv_iload_n hx hb dX3_take_54 rfl (lv_at hl 1 rfl) ?_
    refine wd_callVi (As := [.int (nI tN)]) (rest := [.ref m]) (c2 := 0) (s2 := 0) ⟨hx, hb, hml, hown, hts⟩ (k_X3_manyOf l D cI cT w H.size m A fK (fun r => (rs r).1) fI kc cd pl XD XP XU XO XB tx rs tN r hR (by omega) htx hr24) (cwV 1 hts gX3_take_X3_manyOf rfl rfl rfl (by decide +kernel) ⟨Nat.le_of_ble_eq_true rfl, Nat.le_of_ble_eq_true rfl⟩) gK_ok hK hW (wd_recv (ci := 3) hK.1 hW rfl hR.1) hS hA rfl hl.1 rfl (Nat.le_of_ble_eq_true rfl) dX3_take_55 ⟨Nat.le_of_ble_eq_true rfl, Nat.le_of_ble_eq_true rfl⟩ rfl rfl (fun r_55 w_55 H locs hp_55 hW hz hS => ?_)
    obtain ⟨q_r, q_w⟩ := hp_55
    subst r_55
    subst w_55
    refine wd_put (ci := 3) (v := .int (nI ((rs r).2.length))) (ty := .int) (C := RX3) (T := TX3) (N := 18) hx hb hts (by decide +kernel) tyX3 tyX3_ok nmX3 hown hK.1 hW hS hR.1 rfl 11 (by decide) (hts (.fieldLink RX3 74 "CharRowsModel" "pointMany" "I") (by decide +kernel)) (fun _ h9 => h9) rfl (by decide +kernel) rfl rfl (Nat.le_of_ble_eq_true rfl) dX3_take_58 (fun H locs hW hS => ?_)
    obtain ⟨w_v1, hW, hR⟩ : ∃ w', wd_P D vwCl (wd_A w sg.heap.size) w' H ∧ rW cI m A (fun t => oI (tx t)) fK (fun r => (rs r).1) (fun r => nI (rs r).2.length) fI kc cd pl XD (XP.1, (rs r).2.length) XU XO XB w' := ⟨_, hW, hR.cXP ((rs r).2.length)⟩
    refine lv_iconst (v := 0) hx hb dX3_take_61 (by decide) ?_
    refine lv_istore_n (lv' := [(2, .int 0), (0, .ref m), (1, .int (nI tN))]) hx hb dX3_take_62 rfl hl (by decide) rfl (fun ls hl => ?_)
    refine wd_loop1 (fun (k : Nat) (H : Heap) (locs : List Loc) (ls : Array Slot) => (k ≤ (rs r).2.length) ∧ (∃ w', wd_P D vwCl (wd_A w sg.heap.size) w' H ∧ rW cI m A (fun t => oI (tx t)) fK (fun r => (rs r).1) (fun r => nI (rs r).2.length) fI kc cd pl XD (itN (fun j f => upd f j (lf (rs r).2 j)) k XP.1, (rs r).2.length) XU XO XB w') ∧ va_S (wd_A w sg.heap.size) sg.heap H locs ∧ lv_has ls 3 [(0, .ref m), (1, .int (nI tN)), (2, .int (nI k))]) (fun (k : Nat) => (rs r).2.length - k) 0 ⟨(by omega), ⟨_, hW, hR⟩, hS, (lv_sub hl [1, 2, 0] rfl)⟩ (fun k H locs ls hI ih_63 => ?_)
    obtain ⟨hk, ⟨w_l63, hW, hR⟩, hS, hl⟩ := hI
    refine lv_iload_n hx hb dX3_take_63 rfl (lv_at hl 2 rfl) ?_
    refine lv_aload_n hx hb dX3_take_64 rfl (lv_at hl 0 rfl) ?_
    refine wd_get (ci := 3) (v := .int (nI ((rs r).2.length))) (C := RX3) (T := TX3) (N := 18) hx hb hts (by decide +kernel) hown hK.1 hW hR.1 rfl 11 (by decide) (hts (.fieldLink RX3 74 "CharRowsModel" "pointMany" "I") (by decide +kernel)) (fun _ h9 => h9) rfl dX3_take_65 ?_
    refine lv_icmp_ge (tgt := 89) hx hb dX3_take_68 (by decide) (fun c_68 => ?_) (fun c_68 => ?_)
    ·
      have c_68 : (rs r).2.length ≤ k := (nI_leI (by omega) (by omega)).mp (show (nI ((rs r).2.length) ≤ nI k) from c_68)
      refine lv_aload_n hx hb dX3_take_89 rfl (lv_at hl 0 rfl) ?_
      refine wd_callVv (As := []) (rest := []) (c2 := 0) (s2 := 0) ⟨hx, hb, hml, hown, hts⟩ (k_X3_pointsToUnits l D cI cT w_l63 H.size m A (fun t => oI (tx t)) fK (fun r => (rs r).1) (fun r => nI (rs r).2.length) fI kc cd pl XD (itN (fun j f => upd f j (lf (rs r).2 j)) k XP.1, (rs r).2.length) XU XO XB hR (by show (rs r).2.length ≤ 240; omega)) (cwV 0 hts gX3_take_X3_pointsToUnits rfl rfl rfl (by decide +kernel) ⟨Nat.le_of_ble_eq_true rfl, Nat.le_of_ble_eq_true rfl⟩) gK_ok hK hW (wd_recv (ci := 3) hK.1 hW rfl hR.1) hS hA rfl hl.1 rfl (Nat.le_of_ble_eq_true rfl) dX3_take_90 ⟨Nat.le_of_ble_eq_true rfl, Nat.le_of_ble_eq_true rfl⟩ rfl rfl (fun w_90 H locs hp_90 hW hz hS => ?_)
      have hR := hp_90
      refine wd_vret hx hb hr hlocks hW hS dX3_take_93 ?_
      have hX : rl (itN (fun j f => upd f j (lf (rs r).2 j)) k XP.1, (rs r).2.length) = (rs r).2 := by rw [show k = (rs r).2.length by omega]; exact rl_lay
      refine ⟨(itN (fun j f => upd f j (lf (rs r).2 j)) k XP.1, (rs r).2.length), _, by rw [hX, u_pl, if_neg c_5], ?_, hR⟩
      rw [rl_pu (by show (rs r).2.length ≤ 240; omega), hX, u_ul, if_neg (not_not_intro (hokr.one c_5 hkd))]
    ·
      have c_68 : ¬ ((rs r).2.length ≤ k) := fun q9 => absurd ((nI_leI (by omega) (by omega)).mpr q9) (show ¬ (nI ((rs r).2.length) ≤ nI k) from c_68)
      refine lv_aload_n hx hb dX3_take_71 rfl (lv_at hl 0 rfl) ?_
      refine wd_get (ci := 3) (v := .ref (A 6)) (C := RX3) (T := TX3) (N := 18) hx hb hts (by decide +kernel) hown hK.1 hW hR.1 rfl 10 (by decide) (hts (.fieldLink RX3 32 "CharRowsModel" "points" "[I") (by decide +kernel)) (fun _ h9 => h9) rfl dX3_take_72 ?_
      refine lv_iload_n hx hb dX3_take_75 rfl (lv_at hl 2 rfl) ?_
      refine lv_aload_n hx hb dX3_take_76 rfl (lv_at hl 0 rfl) ?_
      refine lv_iload_n hx hb dX3_take_77 rfl (lv_at hl 1 rfl) ?_
      refine lv_iload_n hx hb dX3_take_78 rfl (lv_at hl 2 rfl) ?_
      refine wd_callVi (As := [.int (nI tN), .int (nI k)]) (rest := [.int (nI k), .ref (A 6)]) (c2 := 0) (s2 := 0) ⟨hx, hb, hml, hown, hts⟩ (k_X3_item l D cI cT w_l63 H.size m A fK (fun r => (rs r).1) (fun r => nI (rs r).2.length) fI kc cd pl XD (itN (fun j f => upd f j (lf (rs r).2 j)) k XP.1, (rs r).2.length) XU XO XB tx rs tN r k hR (by omega) htx hr24 hit (by omega)) (cwV 2 hts gX3_take_X3_item rfl rfl rfl (by decide +kernel) ⟨Nat.le_of_ble_eq_true rfl, Nat.le_of_ble_eq_true rfl⟩) gK_ok hK hW (wd_recv (ci := 3) hK.1 hW rfl hR.1) hS hA rfl hl.1 rfl (Nat.le_of_ble_eq_true rfl) dX3_take_79 ⟨Nat.le_of_ble_eq_true rfl, Nat.le_of_ble_eq_true rfl⟩ rfl rfl (fun r_79 w_79 H locs hp_79 hW hz hS => ?_)
      obtain ⟨q_r, q_w⟩ := hp_79
      subst r_79
      subst w_79
      refine wd_iast hx hb hK.1 hW hS 0 hR.2.2.2.2.2.2.2.1 rfl (vp_in_nI (by omega) (by omega)) dX3_take_82 (fun H locs hW hS => ?_)
      rw [nI_clamp (by omega)] at hW
      obtain ⟨w_v2, hW, hR⟩ : ∃ w', wd_P D vwCl (wd_A w sg.heap.size) w' H ∧ rW cI m A (fun t => oI (tx t)) fK (fun r => (rs r).1) (fun r => nI (rs r).2.length) fI kc cd pl XD ((upd (itN (fun j f => upd f j (lf (rs r).2 j)) k XP.1) k (lf (rs r).2 k)), (rs r).2.length) XU XO XB w' := ⟨_, hW, hR.aXP (upd (itN (fun j f => upd f j (lf (rs r).2 j)) k XP.1) k (lf (rs r).2 k))⟩
      refine lv_iinc (v := nI (k + 1)) (lv' := [(2, .int (nI (k + 1))), (0, .ref m), (1, .int (nI tN))]) hx hb dX3_take_83 hl (k := 2) rfl (nI_add k 1) (by decide) rfl (fun ls hl => ?_)
      refine lv_goto (tgt := 63) hx hb dX3_take_86 (by decide) ?_
      exact ih_63 (k + 1) H locs ls ⟨(by omega), ⟨_, hW, hR⟩, hS, (lv_sub hl [1, 2, 0] rfl)⟩ (by omega)
  ·
    refine lv_aload_n hx hb dX3_take_8 rfl (lv_at hl 0 rfl) ?_
    refine lv_aload_n hx hb dX3_take_9 rfl (lv_at hl 0 rfl) ?_
    refine lv_iload_n hx hb dX3_take_10 rfl (lv_at hl 1 rfl) ?_
    refine wd_callVi (As := [.int (nI tN)]) (rest := [.ref m]) (c2 := 0) (s2 := 0) ⟨hx, hb, hml, hown, hts⟩ (k_X3_manyOf l D cI cT w H.size m A fK (fun r => (rs r).1) fI kc cd pl XD XP XU XO XB tx rs tN r hR (by omega) htx hr24) (cwV 1 hts gX3_take_X3_manyOf rfl rfl rfl (by decide +kernel) ⟨Nat.le_of_ble_eq_true rfl, Nat.le_of_ble_eq_true rfl⟩) gK_ok hK hW (wd_recv (ci := 3) hK.1 hW rfl hR.1) hS hA rfl hl.1 rfl (Nat.le_of_ble_eq_true rfl) dX3_take_11 ⟨Nat.le_of_ble_eq_true rfl, Nat.le_of_ble_eq_true rfl⟩ rfl rfl (fun r_11 w_11 H locs hp_11 hW hz hS => ?_)
    obtain ⟨q_r, q_w⟩ := hp_11
    subst r_11
    subst w_11
    refine wd_put (ci := 3) (v := .int (nI ((rs r).2.length))) (ty := .int) (C := RX3) (T := TX3) (N := 18) hx hb hts (by decide +kernel) tyX3 tyX3_ok nmX3 hown hK.1 hW hS hR.1 rfl 13 (by decide) (hts (.fieldLink RX3 71 "CharRowsModel" "unitMany" "I") (by decide +kernel)) (fun _ h9 => h9) rfl (by decide +kernel) rfl rfl (Nat.le_of_ble_eq_true rfl) dX3_take_14 (fun H locs hW hS => ?_)
    obtain ⟨w_v3, hW, hR⟩ : ∃ w', wd_P D vwCl (wd_A w sg.heap.size) w' H ∧ rW cI m A (fun t => oI (tx t)) fK (fun r => (rs r).1) (fun r => nI (rs r).2.length) fI kc cd pl XD XP (XU.1, (rs r).2.length) XO XB w' := ⟨_, hW, hR.cXU ((rs r).2.length)⟩
    refine lv_iconst (v := 0) hx hb dX3_take_17 (by decide) ?_
    refine lv_istore_n (lv' := [(2, .int 0), (0, .ref m), (1, .int (nI tN))]) hx hb dX3_take_18 rfl hl (by decide) rfl (fun ls hl => ?_)
    refine wd_loop1 (fun (k : Nat) (H : Heap) (locs : List Loc) (ls : Array Slot) => (k ≤ (rs r).2.length) ∧ (∃ w', wd_P D vwCl (wd_A w sg.heap.size) w' H ∧ rW cI m A (fun t => oI (tx t)) fK (fun r => (rs r).1) (fun r => nI (rs r).2.length) fI kc cd pl XD XP (itN (fun j f => upd f j (lf (rs r).2 j)) k XU.1, (rs r).2.length) XO XB w') ∧ va_S (wd_A w sg.heap.size) sg.heap H locs ∧ lv_has ls 3 [(0, .ref m), (1, .int (nI tN)), (2, .int (nI k))]) (fun (k : Nat) => (rs r).2.length - k) 0 ⟨(by omega), ⟨_, hW, hR⟩, hS, (lv_sub hl [1, 2, 0] rfl)⟩ (fun k H locs ls hI ih_19 => ?_)
    obtain ⟨hk, ⟨w_l19, hW, hR⟩, hS, hl⟩ := hI
    refine lv_iload_n hx hb dX3_take_19 rfl (lv_at hl 2 rfl) ?_
    refine lv_aload_n hx hb dX3_take_20 rfl (lv_at hl 0 rfl) ?_
    refine wd_get (ci := 3) (v := .int (nI ((rs r).2.length))) (C := RX3) (T := TX3) (N := 18) hx hb hts (by decide +kernel) hown hK.1 hW hR.1 rfl 13 (by decide) (hts (.fieldLink RX3 71 "CharRowsModel" "unitMany" "I") (by decide +kernel)) (fun _ h9 => h9) rfl dX3_take_21 ?_
    refine lv_icmp_ge (tgt := 45) hx hb dX3_take_24 (by decide) (fun c_24 => ?_) (fun c_24 => ?_)
    ·
      have c_24 : (rs r).2.length ≤ k := (nI_leI (by omega) (by omega)).mp (show (nI ((rs r).2.length) ≤ nI k) from c_24)
      refine lv_aload_n hx hb dX3_take_45 rfl (lv_at hl 0 rfl) ?_
      refine wd_callVv (As := []) (rest := []) (c2 := 0) (s2 := 0) ⟨hx, hb, hml, hown, hts⟩ (k_X3_unitsToPoints l D cI cT w_l19 H.size m A (fun t => oI (tx t)) fK (fun r => (rs r).1) (fun r => nI (rs r).2.length) fI kc cd pl XD XP (itN (fun j f => upd f j (lf (rs r).2 j)) k XU.1, (rs r).2.length) XO XB hR (by show (rs r).2.length ≤ 240; omega)) (cwV 0 hts gX3_take_X3_unitsToPoints rfl rfl rfl (by decide +kernel) ⟨Nat.le_of_ble_eq_true rfl, Nat.le_of_ble_eq_true rfl⟩) gK_ok hK hW (wd_recv (ci := 3) hK.1 hW rfl hR.1) hS hA rfl hl.1 rfl (Nat.le_of_ble_eq_true rfl) dX3_take_46 ⟨Nat.le_of_ble_eq_true rfl, Nat.le_of_ble_eq_true rfl⟩ rfl rfl (fun w_46 H locs hp_46 hW hz hS => ?_)
      obtain ⟨Y, hY, hR⟩ := hp_46
      refine lv_goto (tgt := 93) hx hb dX3_take_49 (by decide) ?_
      refine wd_vret hx hb hr hlocks hW hS dX3_take_93 ?_
      have hX : rl (itN (fun j f => upd f j (lf (rs r).2 j)) k XU.1, (rs r).2.length) = (rs r).2 := by rw [show k = (rs r).2.length by omega]; exact rl_lay
      refine ⟨Y, (itN (fun j f => upd f j (lf (rs r).2 j)) k XU.1, (rs r).2.length), by rw [hY, hX, u_pl, if_pos c_5], by rw [hX, u_ul, if_pos (by rw [c_5]; decide)], hR⟩
    ·
      have c_24 : ¬ ((rs r).2.length ≤ k) := fun q9 => absurd ((nI_leI (by omega) (by omega)).mpr q9) (show ¬ (nI ((rs r).2.length) ≤ nI k) from c_24)
      refine lv_aload_n hx hb dX3_take_27 rfl (lv_at hl 0 rfl) ?_
      refine wd_get (ci := 3) (v := .ref (A 7)) (C := RX3) (T := TX3) (N := 18) hx hb hts (by decide +kernel) hown hK.1 hW hR.1 rfl 12 (by decide) (hts (.fieldLink RX3 35 "CharRowsModel" "units" "[I") (by decide +kernel)) (fun _ h9 => h9) rfl dX3_take_28 ?_
      refine lv_iload_n hx hb dX3_take_31 rfl (lv_at hl 2 rfl) ?_
      refine lv_aload_n hx hb dX3_take_32 rfl (lv_at hl 0 rfl) ?_
      refine lv_iload_n hx hb dX3_take_33 rfl (lv_at hl 1 rfl) ?_
      refine lv_iload_n hx hb dX3_take_34 rfl (lv_at hl 2 rfl) ?_
      refine wd_callVi (As := [.int (nI tN), .int (nI k)]) (rest := [.int (nI k), .ref (A 7)]) (c2 := 0) (s2 := 0) ⟨hx, hb, hml, hown, hts⟩ (k_X3_item l D cI cT w_l19 H.size m A fK (fun r => (rs r).1) (fun r => nI (rs r).2.length) fI kc cd pl XD XP (itN (fun j f => upd f j (lf (rs r).2 j)) k XU.1, (rs r).2.length) XO XB tx rs tN r k hR (by omega) htx hr24 hit (by omega)) (cwV 2 hts gX3_take_X3_item rfl rfl rfl (by decide +kernel) ⟨Nat.le_of_ble_eq_true rfl, Nat.le_of_ble_eq_true rfl⟩) gK_ok hK hW (wd_recv (ci := 3) hK.1 hW rfl hR.1) hS hA rfl hl.1 rfl (Nat.le_of_ble_eq_true rfl) dX3_take_35 ⟨Nat.le_of_ble_eq_true rfl, Nat.le_of_ble_eq_true rfl⟩ rfl rfl (fun r_35 w_35 H locs hp_35 hW hz hS => ?_)
      obtain ⟨q_r, q_w⟩ := hp_35
      subst r_35
      subst w_35
      refine wd_iast hx hb hK.1 hW hS 0 hR.2.2.2.2.2.2.2.2.1 rfl (vp_in_nI (by omega) (by omega)) dX3_take_38 (fun H locs hW hS => ?_)
      rw [nI_clamp (by omega)] at hW
      obtain ⟨w_v4, hW, hR⟩ : ∃ w', wd_P D vwCl (wd_A w sg.heap.size) w' H ∧ rW cI m A (fun t => oI (tx t)) fK (fun r => (rs r).1) (fun r => nI (rs r).2.length) fI kc cd pl XD XP ((upd (itN (fun j f => upd f j (lf (rs r).2 j)) k XU.1) k (lf (rs r).2 k)), (rs r).2.length) XO XB w' := ⟨_, hW, hR.aXU (upd (itN (fun j f => upd f j (lf (rs r).2 j)) k XU.1) k (lf (rs r).2 k))⟩
      refine lv_iinc (v := nI (k + 1)) (lv' := [(2, .int (nI (k + 1))), (0, .ref m), (1, .int (nI tN))]) hx hb dX3_take_39 hl (k := 2) rfl (nI_add k 1) (by decide) rfl (fun ls hl => ?_)
      refine lv_goto (tgt := 19) hx hb dX3_take_42 (by decide) ?_
      exact ih_19 (k + 1) H locs ls ⟨(by omega), ⟨_, hW, hR⟩, hS, (lv_sub hl [1, 2, 0] rfl)⟩ (by omega)
set_option maxHeartbeats 4000000 in
set_option maxRecDepth 100000 in
theorem k_X3_parts (l : Launch) (D : va_G) (cI cT : ClassId) (w : Wd) (sz : Nat) (m : Nat) (A : Nat → Nat) (fK : Nat → Int32) (fI : Nat → Int32) (kc : Nat) (cd : Int32) (pl : Int32) (XD : Rw) (XP : Rw) (XU : Rw) (XO : Rw) (XB : Rw) (tx : Nat → Option Nat) (rs : Rws) (tN : Nat) (r : Nat) (kN : Nat) (hR : rW cI m A (fun t => oI (tx t)) fK (fun r => (rs r).1) (fun r => nI (rs r).2.length) fI kc cd pl XD XP XU XO XB w) (htN : tN < 10) (htx : tx tN = some r) (hr24 : r < 24) (hlv : ∀ t r, tx t = some r → r < 24) (hit : rIt rs fI) (hkN : kN < 2 ^ 31) : wd_Mi l D vwCl (gK D cI cT) yX3_parts wsX3_parts (wd_rm 2 0 0) [.ref m, .int (nI tN), .int (nI kN)] w sz (fun q w' => q = j_b ((rs r).1 = 0 ∧ u_ins (rs r).2 kN) ∧ w' = w) := by
  refine wd_met (cc := cX3_parts) (maxL := 3) (ret := (some .boolean)) (by decide) rfl (Nat.le_of_ble_eq_true rfl) ?_
  intro pg ev sg mi bl mt cde ls C0 hsz hK hW hl
  obtain ⟨hx, hb, hr, hml, hown, hts, hlocks, hnm⟩ := C0
  subst hsz
  have hown : sg.vm.findClass RX3 = some mi.cls := hown
  have hS : va_S (wd_A w sg.heap.size) sg.heap sg.heap [] := va_S.rf
  have hA : ∀ q, sg.heap.size ≤ q → wd_A w sg.heap.size q := fun q h => Or.inr h
  have hl : lv_has ls 3 [(0, .ref m), (1, .int (nI tN)), (2, .int (nI kN))] := hl
  have hl240 := (hit r hr24).1
  refine lv_aload_n hx hb dX3_parts_0 rfl (lv_at hl 0 rfl) ?_
  refine lv_iload_n hx hb dX3_parts_1 rfl (lv_at hl 1 rfl) ?_
  refine wd_callVi (As := [.int (nI tN)]) (rest := []) (c2 := 0) (s2 := 0) ⟨hx, hb, hml, hown, hts⟩ (k_X3_sortOf l D cI cT w sg.heap.size m A fK (fun r => nI (rs r).2.length) fI kc cd pl XD XP XU XO XB tx rs tN hR (by omega) hlv) (cwV 1 hts gX3_parts_X3_sortOf rfl rfl rfl (by decide +kernel) ⟨Nat.le_of_ble_eq_true rfl, Nat.le_of_ble_eq_true rfl⟩) gK_ok hK hW (wd_recv (ci := 3) hK.1 hW rfl hR.1) hS hA rfl hl.1 rfl (Nat.le_of_ble_eq_true rfl) dX3_parts_2 ⟨Nat.le_of_ble_eq_true rfl, Nat.le_of_ble_eq_true rfl⟩ rfl rfl (fun r_2 w_2 H locs hp_2 hW hz hS => ?_)
  obtain ⟨q_r, q_w⟩ := hp_2
  subst r_2
  subst w_2
  refine wd_topE (y := (rs r).1) (by rw [htx]; rfl) ?_
  refine lv_if_ne (tgt := 51) hx hb dX3_parts_5 (by decide) (fun c_5 => ?_) (fun c_5 => ?_)
  ·
    refine lv_iconst (v := 0) hx hb dX3_parts_51 (by decide) ?_
    refine wd_zret hx hb hr hlocks (Or.inl rfl) hW hS dX3_parts_52 ?_
    exact ⟨j_bf (fun q => c_5 q.1), rfl⟩
  ·
    refine lv_iload_n hx hb dX3_parts_8 rfl (lv_at hl 2 rfl) ?_
    refine lv_if_le (tgt := 51) hx hb dX3_parts_9 (by decide) (fun c_9 => ?_) (fun c_9 => ?_)
    ·
      have c_9 : kN ≤ 0 := (nI_leI (by omega) (by omega)).mp (show (nI kN ≤ nI 0) from c_9)
      refine lv_iconst (v := 0) hx hb dX3_parts_51 (by decide) ?_
      refine wd_zret hx hb hr hlocks (Or.inl rfl) hW hS dX3_parts_52 ?_
      exact ⟨j_bf (fun q => absurd q.2.1 (by omega)), rfl⟩
    ·
      have c_9 : ¬ (kN ≤ 0) := fun q9 => absurd ((nI_leI (by omega) (by omega)).mpr q9) (show ¬ (nI kN ≤ nI 0) from c_9)
      refine lv_iload_n hx hb dX3_parts_12 rfl (lv_at hl 2 rfl) ?_
      refine lv_aload_n hx hb dX3_parts_13 rfl (lv_at hl 0 rfl) ?_
      refine lv_iload_n hx hb dX3_parts_14 rfl (lv_at hl 1 rfl) ?_
      refine wd_callVi (As := [.int (nI tN)]) (rest := [.int (nI kN)]) (c2 := 0) (s2 := 0) ⟨hx, hb, hml, hown, hts⟩ (k_X3_manyOf l D cI cT w H.size m A fK (fun r => (rs r).1) fI kc cd pl XD XP XU XO XB tx rs tN r hR (by omega) htx hr24) (cwV 1 hts gX3_parts_X3_manyOf rfl rfl rfl (by decide +kernel) ⟨Nat.le_of_ble_eq_true rfl, Nat.le_of_ble_eq_true rfl⟩) gK_ok hK hW (wd_recv (ci := 3) hK.1 hW rfl hR.1) hS hA rfl hl.1 rfl (Nat.le_of_ble_eq_true rfl) dX3_parts_15 ⟨Nat.le_of_ble_eq_true rfl, Nat.le_of_ble_eq_true rfl⟩ rfl rfl (fun r_15 w_15 H locs hp_15 hW hz hS => ?_)
      obtain ⟨q_r, q_w⟩ := hp_15
      subst r_15
      subst w_15
      refine lv_icmp_ge (tgt := 51) hx hb dX3_parts_18 (by decide) (fun c_18 => ?_) (fun c_18 => ?_)
      ·
        have c_18 : (rs r).2.length ≤ kN := (nI_leI (by omega) (by omega)).mp (show (nI ((rs r).2.length) ≤ nI kN) from c_18)
        refine lv_iconst (v := 0) hx hb dX3_parts_51 (by decide) ?_
        refine wd_zret hx hb hr hlocks (Or.inl rfl) hW hS dX3_parts_52 ?_
        exact ⟨j_bf (fun q => absurd q.2.2.1 (by omega)), rfl⟩
      ·
        have c_18 : ¬ ((rs r).2.length ≤ kN) := fun q9 => absurd ((nI_leI (by omega) (by omega)).mpr q9) (show ¬ (nI ((rs r).2.length) ≤ nI kN) from c_18)
        refine lv_aload_n hx hb dX3_parts_21 rfl (lv_at hl 0 rfl) ?_
        refine lv_iload_n hx hb dX3_parts_22 rfl (lv_at hl 1 rfl) ?_
        refine lv_iload_n hx hb dX3_parts_23 rfl (lv_at hl 2 rfl) ?_
        refine lv_iconst (v := 1) hx hb dX3_parts_24 (by decide) ?_
        refine lv_isub hx hb dX3_parts_25 ?_
        refine wd_topE (y := nI (kN - 1)) (show nI kN - nI 1 = _ from pk_sub (by omega)) ?_
        refine wd_callVi (As := [.int (nI tN), .int (nI (kN - 1))]) (rest := []) (c2 := 0) (s2 := 0) ⟨hx, hb, hml, hown, hts⟩ (k_X3_item l D cI cT w H.size m A fK (fun r => (rs r).1) (fun r => nI (rs r).2.length) fI kc cd pl XD XP XU XO XB tx rs tN r (kN - 1) hR (by omega) htx hr24 hit (by omega)) (cwV 2 hts gX3_parts_X3_item rfl rfl rfl (by decide +kernel) ⟨Nat.le_of_ble_eq_true rfl, Nat.le_of_ble_eq_true rfl⟩) gK_ok hK hW (wd_recv (ci := 3) hK.1 hW rfl hR.1) hS hA rfl hl.1 rfl (Nat.le_of_ble_eq_true rfl) dX3_parts_26 ⟨Nat.le_of_ble_eq_true rfl, Nat.le_of_ble_eq_true rfl⟩ rfl rfl (fun r_26 w_26 H locs hp_26 hW hz hS => ?_)
        obtain ⟨q_r, q_w⟩ := hp_26
        subst r_26
        subst w_26
        refine wd_callSi (As := [.int (lf (rs r).2 (kN - 1))]) (rest := []) (c2 := 0) (s2 := 0) ⟨hx, hb, hml, hown, hts⟩ (k_X3_isHigh l D cI cT w H.size (lf (rs r).2 (kN - 1)) ) (va_cwS 1 hts gX3_parts_X3_isHigh rfl rfl rfl (by decide +kernel) ⟨Nat.le_of_ble_eq_true rfl, Nat.le_of_ble_eq_true rfl⟩) gK_ok hK hW hS hA rfl hl.1 rfl (Nat.le_of_ble_eq_true rfl) dX3_parts_29 ⟨Nat.le_of_ble_eq_true rfl, Nat.le_of_ble_eq_true rfl⟩ rfl rfl (fun r_29 w_29 H locs hp_29 hW hz hS => ?_)
        obtain ⟨q_r, q_w⟩ := hp_29
        subst r_29
        subst w_29
        refine lv_if_eq (tgt := 51) hx hb dX3_parts_32 (by decide) (fun c_32 => ?_) (fun c_32 => ?_)
        ·
          have c_32 := j_b0 c_32
          refine lv_iconst (v := 0) hx hb dX3_parts_51 (by decide) ?_
          refine wd_zret hx hb hr hlocks (Or.inl rfl) hW hS dX3_parts_52 ?_
          exact ⟨j_bf (fun q => c_32 q.2.2.2.1), rfl⟩
        ·
          have c_32 := j_bn c_32
          refine lv_aload_n hx hb dX3_parts_35 rfl (lv_at hl 0 rfl) ?_
          refine lv_iload_n hx hb dX3_parts_36 rfl (lv_at hl 1 rfl) ?_
          refine lv_iload_n hx hb dX3_parts_37 rfl (lv_at hl 2 rfl) ?_
          refine wd_callVi (As := [.int (nI tN), .int (nI kN)]) (rest := []) (c2 := 0) (s2 := 0) ⟨hx, hb, hml, hown, hts⟩ (k_X3_item l D cI cT w H.size m A fK (fun r => (rs r).1) (fun r => nI (rs r).2.length) fI kc cd pl XD XP XU XO XB tx rs tN r kN hR (by omega) htx hr24 hit (by omega)) (cwV 2 hts gX3_parts_X3_item rfl rfl rfl (by decide +kernel) ⟨Nat.le_of_ble_eq_true rfl, Nat.le_of_ble_eq_true rfl⟩) gK_ok hK hW (wd_recv (ci := 3) hK.1 hW rfl hR.1) hS hA rfl hl.1 rfl (Nat.le_of_ble_eq_true rfl) dX3_parts_38 ⟨Nat.le_of_ble_eq_true rfl, Nat.le_of_ble_eq_true rfl⟩ rfl rfl (fun r_38 w_38 H locs hp_38 hW hz hS => ?_)
          obtain ⟨q_r, q_w⟩ := hp_38
          subst r_38
          subst w_38
          refine wd_callSi (As := [.int (lf (rs r).2 kN)]) (rest := []) (c2 := 0) (s2 := 0) ⟨hx, hb, hml, hown, hts⟩ (k_X3_isLow l D cI cT w H.size (lf (rs r).2 kN) ) (va_cwS 1 hts gX3_parts_X3_isLow rfl rfl rfl (by decide +kernel) ⟨Nat.le_of_ble_eq_true rfl, Nat.le_of_ble_eq_true rfl⟩) gK_ok hK hW hS hA rfl hl.1 rfl (Nat.le_of_ble_eq_true rfl) dX3_parts_41 ⟨Nat.le_of_ble_eq_true rfl, Nat.le_of_ble_eq_true rfl⟩ rfl rfl (fun r_41 w_41 H locs hp_41 hW hz hS => ?_)
          obtain ⟨q_r, q_w⟩ := hp_41
          subst r_41
          subst w_41
          refine lv_if_eq (tgt := 51) hx hb dX3_parts_44 (by decide) (fun c_44 => ?_) (fun c_44 => ?_)
          ·
            have c_44 := j_b0 c_44
            refine lv_iconst (v := 0) hx hb dX3_parts_51 (by decide) ?_
            refine wd_zret hx hb hr hlocks (Or.inl rfl) hW hS dX3_parts_52 ?_
            exact ⟨j_bf (fun q => c_44 q.2.2.2.2), rfl⟩
          ·
            have c_44 := j_bn c_44
            refine lv_iconst (v := 1) hx hb dX3_parts_47 (by decide) ?_
            refine lv_goto (tgt := 52) hx hb dX3_parts_48 (by decide) ?_
            refine wd_zret hx hb hr hlocks (Or.inr rfl) hW hS dX3_parts_52 ?_
            exact ⟨j_bt ⟨c_5, by omega, by omega, c_32, c_44⟩, rfl⟩
set_option maxHeartbeats 4000000 in
set_option maxRecDepth 100000 in
theorem k_X3_against6 (l : Launch) (D : va_G) (cI cT : ClassId) (w : Wd) (sz : Nat) (m : Nat) (A : Nat → Nat) (fT : Nat → Int32) (fK : Nat → Int32) (fS : Nat → Int32) (fM : Nat → Int32) (fI : Nat → Int32) (kc : Nat) (cd : Int32) (pl : Int32) (XD : Rw) (XP : Rw) (XU : Rw) (XO : Rw) (XB : Rw) (mm : Nat) (hR : rW cI m A fT fK fS fM fI kc cd pl XD XP XU XO XB w) (hmm : mm ≤ 240) (hom : XO.2 ≤ 480) : wd_Mi l D vwCl (gK D cI cT) yX3_against wsX3_against (wd_rm 0 0 0) [.ref m, .ref (A 6), .int (nI mm)] w sz (fun q w' => q = u_ord (rl (XP.1, mm)) (rl XO) ∧ w' = w) := by
  refine wd_met (cc := cX3_against) (maxL := 4) (ret := (some .int)) (by decide) rfl (Nat.le_of_ble_eq_true rfl) ?_
  intro pg ev sg mi bl mt cde ls C0 hsz hK hW hl
  obtain ⟨hx, hb, hr, hml, hown, hts, hlocks, hnm⟩ := C0
  subst hsz
  have hown : sg.vm.findClass RX3 = some mi.cls := hown
  have hS : va_S (wd_A w sg.heap.size) sg.heap sg.heap [] := va_S.rf
  have hA : ∀ q, sg.heap.size ≤ q → wd_A w sg.heap.size q := fun q h => Or.inr h
  have hl : lv_has ls 4 [(0, .ref m), (1, .ref (A 6)), (2, .int (nI mm))] := hl
  refine lv_iconst (v := 0) hx hb dX3_against_0 (by decide) ?_
  refine lv_istore_n (lv' := [(3, .int 0), (0, .ref m), (1, .ref (A 6)), (2, .int (nI mm))]) hx hb dX3_against_1 rfl hl (by decide) rfl (fun ls hl => ?_)
  refine wd_loop1 (fun (k : Nat) (H : Heap) (locs : List Loc) (ls : Array Slot) => (k ≤ min (min mm mm) (min XO.2 XO.2)) ∧ (j_cmp (XP.1, mm).1 XO.1 (min (min mm mm) (min XO.2 XO.2)) 0 = j_cmp (XP.1, mm).1 XO.1 (min (min mm mm) (min XO.2 XO.2) - k) k) ∧ wd_P D vwCl (wd_A w sg.heap.size) w H ∧ va_S (wd_A w sg.heap.size) sg.heap H locs ∧ lv_has ls 4 [(0, .ref m), (1, .ref (A 6)), (2, .int (nI mm)), (3, .int (nI k))]) (fun (k : Nat) => mm - k) 0 ⟨(by omega), rfl, hW, hS, (lv_sub hl [1, 2, 3, 0] rfl)⟩ (fun k H locs ls hI ih_2 => ?_)
  obtain ⟨hk, hI, hW, hS, hl⟩ := hI
  refine lv_iload_n hx hb dX3_against_2 rfl (lv_at hl 3 rfl) ?_
  refine lv_iload_n hx hb dX3_against_3 rfl (lv_at hl 2 rfl) ?_
  refine lv_icmp_ge (tgt := 51) hx hb dX3_against_4 (by decide) (fun c_4 => ?_) (fun c_4 => ?_)
  ·
    have c_4 : mm ≤ k := (nI_leI (by omega) (by omega)).mp (show (nI mm ≤ nI k) from c_4)
    refine lv_iload_n hx hb dX3_against_51 rfl (lv_at hl 2 rfl) ?_
    refine lv_aload_n hx hb dX3_against_52 rfl (lv_at hl 0 rfl) ?_
    refine wd_get (ci := 3) (v := .int (nI XO.2)) (C := RX3) (T := TX3) (N := 18) hx hb hts (by decide +kernel) hown hK.1 hW hR.1 rfl 15 (by decide) (hts (.fieldLink RX3 149 "CharRowsModel" "otherMany" "I") (by decide +kernel)) (fun _ h9 => h9) rfl dX3_against_53 ?_
    refine lv_icmp_ge (tgt := 63) hx hb dX3_against_56 (by decide) (fun c_56 => ?_) (fun c_56 => ?_)
    ·
      have c_56 : XO.2 ≤ mm := (nI_leI (by omega) (by omega)).mp (show (nI XO.2 ≤ nI mm) from c_56)
      refine lv_iload_n hx hb dX3_against_63 rfl (lv_at hl 2 rfl) ?_
      refine lv_aload_n hx hb dX3_against_64 rfl (lv_at hl 0 rfl) ?_
      refine wd_get (ci := 3) (v := .int (nI XO.2)) (C := RX3) (T := TX3) (N := 18) hx hb hts (by decide +kernel) hown hK.1 hW hR.1 rfl 15 (by decide) (hts (.fieldLink RX3 149 "CharRowsModel" "otherMany" "I") (by decide +kernel)) (fun _ h9 => h9) rfl dX3_against_65 ?_
      refine lv_icmp_le (tgt := 75) hx hb dX3_against_68 (by decide) (fun c_68 => ?_) (fun c_68 => ?_)
      ·
        have c_68 : mm ≤ XO.2 := (nI_leI (by omega) (by omega)).mp (show (nI mm ≤ nI XO.2) from c_68)
        refine lv_iconst (v := 0) hx hb dX3_against_75 (by decide) ?_
        refine wd_iret hx hb hr hlocks hW hS dX3_against_76 ?_
        refine ⟨?_, rfl⟩
        rw [← j_ord_eq (X := (XP.1, mm)) (Y := XO) (Nat.le_refl _) (Nat.le_refl _)]
        rw [j_ord, hI, show min (min mm mm) (min XO.2 XO.2) - k = 0 by omega]
        show _ = (if mm = XO.2 then _ else if mm < XO.2 then _ else _)
        rw [if_pos (by omega)]
      ·
        have c_68 : ¬ (mm ≤ XO.2) := fun q9 => absurd ((nI_leI (by omega) (by omega)).mpr q9) (show ¬ (nI mm ≤ nI XO.2) from c_68)
        refine lv_iconst (v := 1) hx hb dX3_against_71 (by decide) ?_
        refine lv_goto (tgt := 76) hx hb dX3_against_72 (by decide) ?_
        refine wd_iret hx hb hr hlocks hW hS dX3_against_76 ?_
        refine ⟨?_, rfl⟩
        rw [← j_ord_eq (X := (XP.1, mm)) (Y := XO) (Nat.le_refl _) (Nat.le_refl _)]
        rw [j_ord, hI, show min (min mm mm) (min XO.2 XO.2) - k = 0 by omega]
        show _ = (if mm = XO.2 then _ else if mm < XO.2 then _ else _)
        rw [if_neg (by omega), if_neg (by omega)]
    ·
      have c_56 : ¬ (XO.2 ≤ mm) := fun q9 => absurd ((nI_leI (by omega) (by omega)).mpr q9) (show ¬ (nI XO.2 ≤ nI mm) from c_56)
      refine lv_iconst (v := (-1)) hx hb dX3_against_59 (by decide) ?_
      refine lv_goto (tgt := 76) hx hb dX3_against_60 (by decide) ?_
      refine wd_iret hx hb hr hlocks hW hS dX3_against_76 ?_
      refine ⟨?_, rfl⟩
      rw [← j_ord_eq (X := (XP.1, mm)) (Y := XO) (Nat.le_refl _) (Nat.le_refl _)]
      rw [j_ord, hI, show min (min mm mm) (min XO.2 XO.2) - k = 0 by omega]
      show _ = (if mm = XO.2 then _ else if mm < XO.2 then _ else _)
      rw [if_neg (by omega), if_pos (by omega)]
  ·
    have c_4 : ¬ (mm ≤ k) := fun q9 => absurd ((nI_leI (by omega) (by omega)).mpr q9) (show ¬ (nI mm ≤ nI k) from c_4)
    refine lv_iload_n hx hb dX3_against_7 rfl (lv_at hl 3 rfl) ?_
    refine lv_aload_n hx hb dX3_against_8 rfl (lv_at hl 0 rfl) ?_
    refine wd_get (ci := 3) (v := .int (nI XO.2)) (C := RX3) (T := TX3) (N := 18) hx hb hts (by decide +kernel) hown hK.1 hW hR.1 rfl 15 (by decide) (hts (.fieldLink RX3 149 "CharRowsModel" "otherMany" "I") (by decide +kernel)) (fun _ h9 => h9) rfl dX3_against_9 ?_
    refine lv_icmp_ge (tgt := 51) hx hb dX3_against_12 (by decide) (fun c_12 => ?_) (fun c_12 => ?_)
    ·
      have c_12 : XO.2 ≤ k := (nI_leI (by omega) (by omega)).mp (show (nI XO.2 ≤ nI k) from c_12)
      refine lv_iload_n hx hb dX3_against_51 rfl (lv_at hl 2 rfl) ?_
      refine lv_aload_n hx hb dX3_against_52 rfl (lv_at hl 0 rfl) ?_
      refine wd_get (ci := 3) (v := .int (nI XO.2)) (C := RX3) (T := TX3) (N := 18) hx hb hts (by decide +kernel) hown hK.1 hW hR.1 rfl 15 (by decide) (hts (.fieldLink RX3 149 "CharRowsModel" "otherMany" "I") (by decide +kernel)) (fun _ h9 => h9) rfl dX3_against_53 ?_
      refine lv_icmp_ge (tgt := 63) hx hb dX3_against_56 (by decide) (fun c_56 => ?_) (fun c_56 => ?_)
      ·
        have c_56 : XO.2 ≤ mm := (nI_leI (by omega) (by omega)).mp (show (nI XO.2 ≤ nI mm) from c_56)
        refine lv_iload_n hx hb dX3_against_63 rfl (lv_at hl 2 rfl) ?_
        refine lv_aload_n hx hb dX3_against_64 rfl (lv_at hl 0 rfl) ?_
        refine wd_get (ci := 3) (v := .int (nI XO.2)) (C := RX3) (T := TX3) (N := 18) hx hb hts (by decide +kernel) hown hK.1 hW hR.1 rfl 15 (by decide) (hts (.fieldLink RX3 149 "CharRowsModel" "otherMany" "I") (by decide +kernel)) (fun _ h9 => h9) rfl dX3_against_65 ?_
        refine lv_icmp_le (tgt := 75) hx hb dX3_against_68 (by decide) (fun c_68 => ?_) (fun c_68 => ?_)
        ·
          have c_68 : mm ≤ XO.2 := (nI_leI (by omega) (by omega)).mp (show (nI mm ≤ nI XO.2) from c_68)
          refine lv_iconst (v := 0) hx hb dX3_against_75 (by decide) ?_
          refine wd_iret hx hb hr hlocks hW hS dX3_against_76 ?_
          refine ⟨?_, rfl⟩
          rw [← j_ord_eq (X := (XP.1, mm)) (Y := XO) (Nat.le_refl _) (Nat.le_refl _)]
          rw [j_ord, hI, show min (min mm mm) (min XO.2 XO.2) - k = 0 by omega]
          show _ = (if mm = XO.2 then _ else if mm < XO.2 then _ else _)
          rw [if_pos (by omega)]
        ·
          have c_68 : ¬ (mm ≤ XO.2) := fun q9 => absurd ((nI_leI (by omega) (by omega)).mpr q9) (show ¬ (nI mm ≤ nI XO.2) from c_68)
          refine lv_iconst (v := 1) hx hb dX3_against_71 (by decide) ?_
          refine lv_goto (tgt := 76) hx hb dX3_against_72 (by decide) ?_
          refine wd_iret hx hb hr hlocks hW hS dX3_against_76 ?_
          refine ⟨?_, rfl⟩
          rw [← j_ord_eq (X := (XP.1, mm)) (Y := XO) (Nat.le_refl _) (Nat.le_refl _)]
          rw [j_ord, hI, show min (min mm mm) (min XO.2 XO.2) - k = 0 by omega]
          show _ = (if mm = XO.2 then _ else if mm < XO.2 then _ else _)
          rw [if_neg (by omega), if_neg (by omega)]
      ·
        have c_56 : ¬ (XO.2 ≤ mm) := fun q9 => absurd ((nI_leI (by omega) (by omega)).mpr q9) (show ¬ (nI XO.2 ≤ nI mm) from c_56)
        refine lv_iconst (v := (-1)) hx hb dX3_against_59 (by decide) ?_
        refine lv_goto (tgt := 76) hx hb dX3_against_60 (by decide) ?_
        refine wd_iret hx hb hr hlocks hW hS dX3_against_76 ?_
        refine ⟨?_, rfl⟩
        rw [← j_ord_eq (X := (XP.1, mm)) (Y := XO) (Nat.le_refl _) (Nat.le_refl _)]
        rw [j_ord, hI, show min (min mm mm) (min XO.2 XO.2) - k = 0 by omega]
        show _ = (if mm = XO.2 then _ else if mm < XO.2 then _ else _)
        rw [if_neg (by omega), if_pos (by omega)]
    ·
      have c_12 : ¬ (XO.2 ≤ k) := fun q9 => absurd ((nI_leI (by omega) (by omega)).mpr q9) (show ¬ (nI XO.2 ≤ nI k) from c_12)
      refine lv_aload_n hx hb dX3_against_15 rfl (lv_at hl 1 rfl) ?_
      refine lv_iload_n hx hb dX3_against_16 rfl (lv_at hl 3 rfl) ?_
      refine wd_iald hx hb hK.1 hW 0 hR.2.2.2.2.2.2.2.1 rfl (vp_in_nI (by omega) (by omega)) dX3_against_17 ?_
      refine wd_topE (y := XP.1 k) (by rw [nI_clamp (by omega)]) ?_
      refine lv_aload_n hx hb dX3_against_18 rfl (lv_at hl 0 rfl) ?_
      refine wd_get (ci := 3) (v := .ref (A 8)) (C := RX3) (T := TX3) (N := 18) hx hb hts (by decide +kernel) hown hK.1 hW hR.1 rfl 14 (by decide) (hts (.fieldLink RX3 38 "CharRowsModel" "others" "[I") (by decide +kernel)) (fun _ h9 => h9) rfl dX3_against_19 ?_
      refine lv_iload_n hx hb dX3_against_22 rfl (lv_at hl 3 rfl) ?_
      refine wd_iald hx hb hK.1 hW 0 hR.2.2.2.2.2.2.2.2.2.1 rfl (vp_in_nI (by omega) (by omega)) dX3_against_23 ?_
      refine wd_topE (y := XO.1 k) (by rw [nI_clamp (by omega)]) ?_
      refine lv_icmp_eq (tgt := 45) hx hb dX3_against_24 (by decide) (fun c_24 => ?_) (fun c_24 => ?_)
      ·
        refine lv_iinc (v := nI (k + 1)) (lv' := [(3, .int (nI (k + 1))), (0, .ref m), (1, .ref (A 6)), (2, .int (nI mm))]) hx hb dX3_against_45 hl (k := 3) rfl (nI_add k 1) (by decide) rfl (fun ls hl => ?_)
        refine lv_goto (tgt := 2) hx hb dX3_against_48 (by decide) ?_
        exact ih_2 (k + 1) H locs ls ⟨(by omega), (hI.trans ((j_cmp_eq c_24 (by omega)).trans (by rw [show min (min mm mm) (min XO.2 XO.2) - k - 1 = min (min mm mm) (min XO.2 XO.2) - (k + 1) by omega]))), hW, hS, (lv_sub hl [1, 2, 3, 0] rfl)⟩ (by omega)
      ·
        refine lv_aload_n hx hb dX3_against_27 rfl (lv_at hl 1 rfl) ?_
        refine lv_iload_n hx hb dX3_against_28 rfl (lv_at hl 3 rfl) ?_
        refine wd_iald hx hb hK.1 hW 0 hR.2.2.2.2.2.2.2.1 rfl (vp_in_nI (by omega) (by omega)) dX3_against_29 ?_
        refine wd_topE (y := XP.1 k) (by rw [nI_clamp (by omega)]) ?_
        refine lv_aload_n hx hb dX3_against_30 rfl (lv_at hl 0 rfl) ?_
        refine wd_get (ci := 3) (v := .ref (A 8)) (C := RX3) (T := TX3) (N := 18) hx hb hts (by decide +kernel) hown hK.1 hW hR.1 rfl 14 (by decide) (hts (.fieldLink RX3 38 "CharRowsModel" "others" "[I") (by decide +kernel)) (fun _ h9 => h9) rfl dX3_against_31 ?_
        refine lv_iload_n hx hb dX3_against_34 rfl (lv_at hl 3 rfl) ?_
        refine wd_iald hx hb hK.1 hW 0 hR.2.2.2.2.2.2.2.2.2.1 rfl (vp_in_nI (by omega) (by omega)) dX3_against_35 ?_
        refine wd_topE (y := XO.1 k) (by rw [nI_clamp (by omega)]) ?_
        refine lv_icmp_ge (tgt := 43) hx hb dX3_against_36 (by decide) (fun c_36 => ?_) (fun c_36 => ?_)
        ·
          simp only [i_le, Decidable.not_not] at c_36
          refine lv_iconst (v := 1) hx hb dX3_against_43 (by decide) ?_
          refine wd_iret hx hb hr hlocks hW hS dX3_against_44 ?_
          refine ⟨?_, rfl⟩
          rw [← j_ord_eq (X := (XP.1, mm)) (Y := XO) (Nat.le_refl _) (Nat.le_refl _)]
          rw [j_ord, hI, j_cmp_ne c_24 (by omega)]
          show _ = (if XP.1 k < XO.1 k then _ else _)
          rw [if_neg c_36]
        ·
          simp only [i_le, Decidable.not_not] at c_36
          refine lv_iconst (v := (-1)) hx hb dX3_against_39 (by decide) ?_
          refine lv_goto (tgt := 44) hx hb dX3_against_40 (by decide) ?_
          refine wd_iret hx hb hr hlocks hW hS dX3_against_44 ?_
          refine ⟨?_, rfl⟩
          rw [← j_ord_eq (X := (XP.1, mm)) (Y := XO) (Nat.le_refl _) (Nat.le_refl _)]
          rw [j_ord, hI, j_cmp_ne c_24 (by omega)]
          show _ = (if XP.1 k < XO.1 k then _ else _)
          rw [if_pos c_36]
set_option maxHeartbeats 4000000 in
set_option maxRecDepth 100000 in
theorem k_X3_against7 (l : Launch) (D : va_G) (cI cT : ClassId) (w : Wd) (sz : Nat) (m : Nat) (A : Nat → Nat) (fT : Nat → Int32) (fK : Nat → Int32) (fS : Nat → Int32) (fM : Nat → Int32) (fI : Nat → Int32) (kc : Nat) (cd : Int32) (pl : Int32) (XD : Rw) (XP : Rw) (XU : Rw) (XO : Rw) (XB : Rw) (mm : Nat) (hR : rW cI m A fT fK fS fM fI kc cd pl XD XP XU XO XB w) (hmm : mm ≤ 480) (hom : XO.2 ≤ 480) : wd_Mi l D vwCl (gK D cI cT) yX3_against wsX3_against (wd_rm 0 0 0) [.ref m, .ref (A 7), .int (nI mm)] w sz (fun q w' => q = u_ord (rl (XU.1, mm)) (rl XO) ∧ w' = w) := by
  refine wd_met (cc := cX3_against) (maxL := 4) (ret := (some .int)) (by decide) rfl (Nat.le_of_ble_eq_true rfl) ?_
  intro pg ev sg mi bl mt cde ls C0 hsz hK hW hl
  obtain ⟨hx, hb, hr, hml, hown, hts, hlocks, hnm⟩ := C0
  subst hsz
  have hown : sg.vm.findClass RX3 = some mi.cls := hown
  have hS : va_S (wd_A w sg.heap.size) sg.heap sg.heap [] := va_S.rf
  have hA : ∀ q, sg.heap.size ≤ q → wd_A w sg.heap.size q := fun q h => Or.inr h
  have hl : lv_has ls 4 [(0, .ref m), (1, .ref (A 7)), (2, .int (nI mm))] := hl
  refine lv_iconst (v := 0) hx hb dX3_against_0 (by decide) ?_
  refine lv_istore_n (lv' := [(3, .int 0), (0, .ref m), (1, .ref (A 7)), (2, .int (nI mm))]) hx hb dX3_against_1 rfl hl (by decide) rfl (fun ls hl => ?_)
  refine wd_loop1 (fun (k : Nat) (H : Heap) (locs : List Loc) (ls : Array Slot) => (k ≤ min (min mm mm) (min XO.2 XO.2)) ∧ (j_cmp (XU.1, mm).1 XO.1 (min (min mm mm) (min XO.2 XO.2)) 0 = j_cmp (XU.1, mm).1 XO.1 (min (min mm mm) (min XO.2 XO.2) - k) k) ∧ wd_P D vwCl (wd_A w sg.heap.size) w H ∧ va_S (wd_A w sg.heap.size) sg.heap H locs ∧ lv_has ls 4 [(0, .ref m), (1, .ref (A 7)), (2, .int (nI mm)), (3, .int (nI k))]) (fun (k : Nat) => mm - k) 0 ⟨(by omega), rfl, hW, hS, (lv_sub hl [1, 2, 3, 0] rfl)⟩ (fun k H locs ls hI ih_2 => ?_)
  obtain ⟨hk, hI, hW, hS, hl⟩ := hI
  refine lv_iload_n hx hb dX3_against_2 rfl (lv_at hl 3 rfl) ?_
  refine lv_iload_n hx hb dX3_against_3 rfl (lv_at hl 2 rfl) ?_
  refine lv_icmp_ge (tgt := 51) hx hb dX3_against_4 (by decide) (fun c_4 => ?_) (fun c_4 => ?_)
  ·
    have c_4 : mm ≤ k := (nI_leI (by omega) (by omega)).mp (show (nI mm ≤ nI k) from c_4)
    refine lv_iload_n hx hb dX3_against_51 rfl (lv_at hl 2 rfl) ?_
    refine lv_aload_n hx hb dX3_against_52 rfl (lv_at hl 0 rfl) ?_
    refine wd_get (ci := 3) (v := .int (nI XO.2)) (C := RX3) (T := TX3) (N := 18) hx hb hts (by decide +kernel) hown hK.1 hW hR.1 rfl 15 (by decide) (hts (.fieldLink RX3 149 "CharRowsModel" "otherMany" "I") (by decide +kernel)) (fun _ h9 => h9) rfl dX3_against_53 ?_
    refine lv_icmp_ge (tgt := 63) hx hb dX3_against_56 (by decide) (fun c_56 => ?_) (fun c_56 => ?_)
    ·
      have c_56 : XO.2 ≤ mm := (nI_leI (by omega) (by omega)).mp (show (nI XO.2 ≤ nI mm) from c_56)
      refine lv_iload_n hx hb dX3_against_63 rfl (lv_at hl 2 rfl) ?_
      refine lv_aload_n hx hb dX3_against_64 rfl (lv_at hl 0 rfl) ?_
      refine wd_get (ci := 3) (v := .int (nI XO.2)) (C := RX3) (T := TX3) (N := 18) hx hb hts (by decide +kernel) hown hK.1 hW hR.1 rfl 15 (by decide) (hts (.fieldLink RX3 149 "CharRowsModel" "otherMany" "I") (by decide +kernel)) (fun _ h9 => h9) rfl dX3_against_65 ?_
      refine lv_icmp_le (tgt := 75) hx hb dX3_against_68 (by decide) (fun c_68 => ?_) (fun c_68 => ?_)
      ·
        have c_68 : mm ≤ XO.2 := (nI_leI (by omega) (by omega)).mp (show (nI mm ≤ nI XO.2) from c_68)
        refine lv_iconst (v := 0) hx hb dX3_against_75 (by decide) ?_
        refine wd_iret hx hb hr hlocks hW hS dX3_against_76 ?_
        refine ⟨?_, rfl⟩
        rw [← j_ord_eq (X := (XU.1, mm)) (Y := XO) (Nat.le_refl _) (Nat.le_refl _)]
        rw [j_ord, hI, show min (min mm mm) (min XO.2 XO.2) - k = 0 by omega]
        show _ = (if mm = XO.2 then _ else if mm < XO.2 then _ else _)
        rw [if_pos (by omega)]
      ·
        have c_68 : ¬ (mm ≤ XO.2) := fun q9 => absurd ((nI_leI (by omega) (by omega)).mpr q9) (show ¬ (nI mm ≤ nI XO.2) from c_68)
        refine lv_iconst (v := 1) hx hb dX3_against_71 (by decide) ?_
        refine lv_goto (tgt := 76) hx hb dX3_against_72 (by decide) ?_
        refine wd_iret hx hb hr hlocks hW hS dX3_against_76 ?_
        refine ⟨?_, rfl⟩
        rw [← j_ord_eq (X := (XU.1, mm)) (Y := XO) (Nat.le_refl _) (Nat.le_refl _)]
        rw [j_ord, hI, show min (min mm mm) (min XO.2 XO.2) - k = 0 by omega]
        show _ = (if mm = XO.2 then _ else if mm < XO.2 then _ else _)
        rw [if_neg (by omega), if_neg (by omega)]
    ·
      have c_56 : ¬ (XO.2 ≤ mm) := fun q9 => absurd ((nI_leI (by omega) (by omega)).mpr q9) (show ¬ (nI XO.2 ≤ nI mm) from c_56)
      refine lv_iconst (v := (-1)) hx hb dX3_against_59 (by decide) ?_
      refine lv_goto (tgt := 76) hx hb dX3_against_60 (by decide) ?_
      refine wd_iret hx hb hr hlocks hW hS dX3_against_76 ?_
      refine ⟨?_, rfl⟩
      rw [← j_ord_eq (X := (XU.1, mm)) (Y := XO) (Nat.le_refl _) (Nat.le_refl _)]
      rw [j_ord, hI, show min (min mm mm) (min XO.2 XO.2) - k = 0 by omega]
      show _ = (if mm = XO.2 then _ else if mm < XO.2 then _ else _)
      rw [if_neg (by omega), if_pos (by omega)]
  ·
    have c_4 : ¬ (mm ≤ k) := fun q9 => absurd ((nI_leI (by omega) (by omega)).mpr q9) (show ¬ (nI mm ≤ nI k) from c_4)
    refine lv_iload_n hx hb dX3_against_7 rfl (lv_at hl 3 rfl) ?_
    refine lv_aload_n hx hb dX3_against_8 rfl (lv_at hl 0 rfl) ?_
    refine wd_get (ci := 3) (v := .int (nI XO.2)) (C := RX3) (T := TX3) (N := 18) hx hb hts (by decide +kernel) hown hK.1 hW hR.1 rfl 15 (by decide) (hts (.fieldLink RX3 149 "CharRowsModel" "otherMany" "I") (by decide +kernel)) (fun _ h9 => h9) rfl dX3_against_9 ?_
    refine lv_icmp_ge (tgt := 51) hx hb dX3_against_12 (by decide) (fun c_12 => ?_) (fun c_12 => ?_)
    ·
      have c_12 : XO.2 ≤ k := (nI_leI (by omega) (by omega)).mp (show (nI XO.2 ≤ nI k) from c_12)
      refine lv_iload_n hx hb dX3_against_51 rfl (lv_at hl 2 rfl) ?_
      refine lv_aload_n hx hb dX3_against_52 rfl (lv_at hl 0 rfl) ?_
      refine wd_get (ci := 3) (v := .int (nI XO.2)) (C := RX3) (T := TX3) (N := 18) hx hb hts (by decide +kernel) hown hK.1 hW hR.1 rfl 15 (by decide) (hts (.fieldLink RX3 149 "CharRowsModel" "otherMany" "I") (by decide +kernel)) (fun _ h9 => h9) rfl dX3_against_53 ?_
      refine lv_icmp_ge (tgt := 63) hx hb dX3_against_56 (by decide) (fun c_56 => ?_) (fun c_56 => ?_)
      ·
        have c_56 : XO.2 ≤ mm := (nI_leI (by omega) (by omega)).mp (show (nI XO.2 ≤ nI mm) from c_56)
        refine lv_iload_n hx hb dX3_against_63 rfl (lv_at hl 2 rfl) ?_
        refine lv_aload_n hx hb dX3_against_64 rfl (lv_at hl 0 rfl) ?_
        refine wd_get (ci := 3) (v := .int (nI XO.2)) (C := RX3) (T := TX3) (N := 18) hx hb hts (by decide +kernel) hown hK.1 hW hR.1 rfl 15 (by decide) (hts (.fieldLink RX3 149 "CharRowsModel" "otherMany" "I") (by decide +kernel)) (fun _ h9 => h9) rfl dX3_against_65 ?_
        refine lv_icmp_le (tgt := 75) hx hb dX3_against_68 (by decide) (fun c_68 => ?_) (fun c_68 => ?_)
        ·
          have c_68 : mm ≤ XO.2 := (nI_leI (by omega) (by omega)).mp (show (nI mm ≤ nI XO.2) from c_68)
          refine lv_iconst (v := 0) hx hb dX3_against_75 (by decide) ?_
          refine wd_iret hx hb hr hlocks hW hS dX3_against_76 ?_
          refine ⟨?_, rfl⟩
          rw [← j_ord_eq (X := (XU.1, mm)) (Y := XO) (Nat.le_refl _) (Nat.le_refl _)]
          rw [j_ord, hI, show min (min mm mm) (min XO.2 XO.2) - k = 0 by omega]
          show _ = (if mm = XO.2 then _ else if mm < XO.2 then _ else _)
          rw [if_pos (by omega)]
        ·
          have c_68 : ¬ (mm ≤ XO.2) := fun q9 => absurd ((nI_leI (by omega) (by omega)).mpr q9) (show ¬ (nI mm ≤ nI XO.2) from c_68)
          refine lv_iconst (v := 1) hx hb dX3_against_71 (by decide) ?_
          refine lv_goto (tgt := 76) hx hb dX3_against_72 (by decide) ?_
          refine wd_iret hx hb hr hlocks hW hS dX3_against_76 ?_
          refine ⟨?_, rfl⟩
          rw [← j_ord_eq (X := (XU.1, mm)) (Y := XO) (Nat.le_refl _) (Nat.le_refl _)]
          rw [j_ord, hI, show min (min mm mm) (min XO.2 XO.2) - k = 0 by omega]
          show _ = (if mm = XO.2 then _ else if mm < XO.2 then _ else _)
          rw [if_neg (by omega), if_neg (by omega)]
      ·
        have c_56 : ¬ (XO.2 ≤ mm) := fun q9 => absurd ((nI_leI (by omega) (by omega)).mpr q9) (show ¬ (nI XO.2 ≤ nI mm) from c_56)
        refine lv_iconst (v := (-1)) hx hb dX3_against_59 (by decide) ?_
        refine lv_goto (tgt := 76) hx hb dX3_against_60 (by decide) ?_
        refine wd_iret hx hb hr hlocks hW hS dX3_against_76 ?_
        refine ⟨?_, rfl⟩
        rw [← j_ord_eq (X := (XU.1, mm)) (Y := XO) (Nat.le_refl _) (Nat.le_refl _)]
        rw [j_ord, hI, show min (min mm mm) (min XO.2 XO.2) - k = 0 by omega]
        show _ = (if mm = XO.2 then _ else if mm < XO.2 then _ else _)
        rw [if_neg (by omega), if_pos (by omega)]
    ·
      have c_12 : ¬ (XO.2 ≤ k) := fun q9 => absurd ((nI_leI (by omega) (by omega)).mpr q9) (show ¬ (nI XO.2 ≤ nI k) from c_12)
      refine lv_aload_n hx hb dX3_against_15 rfl (lv_at hl 1 rfl) ?_
      refine lv_iload_n hx hb dX3_against_16 rfl (lv_at hl 3 rfl) ?_
      refine wd_iald hx hb hK.1 hW 0 hR.2.2.2.2.2.2.2.2.1 rfl (vp_in_nI (by omega) (by omega)) dX3_against_17 ?_
      refine wd_topE (y := XU.1 k) (by rw [nI_clamp (by omega)]) ?_
      refine lv_aload_n hx hb dX3_against_18 rfl (lv_at hl 0 rfl) ?_
      refine wd_get (ci := 3) (v := .ref (A 8)) (C := RX3) (T := TX3) (N := 18) hx hb hts (by decide +kernel) hown hK.1 hW hR.1 rfl 14 (by decide) (hts (.fieldLink RX3 38 "CharRowsModel" "others" "[I") (by decide +kernel)) (fun _ h9 => h9) rfl dX3_against_19 ?_
      refine lv_iload_n hx hb dX3_against_22 rfl (lv_at hl 3 rfl) ?_
      refine wd_iald hx hb hK.1 hW 0 hR.2.2.2.2.2.2.2.2.2.1 rfl (vp_in_nI (by omega) (by omega)) dX3_against_23 ?_
      refine wd_topE (y := XO.1 k) (by rw [nI_clamp (by omega)]) ?_
      refine lv_icmp_eq (tgt := 45) hx hb dX3_against_24 (by decide) (fun c_24 => ?_) (fun c_24 => ?_)
      ·
        refine lv_iinc (v := nI (k + 1)) (lv' := [(3, .int (nI (k + 1))), (0, .ref m), (1, .ref (A 7)), (2, .int (nI mm))]) hx hb dX3_against_45 hl (k := 3) rfl (nI_add k 1) (by decide) rfl (fun ls hl => ?_)
        refine lv_goto (tgt := 2) hx hb dX3_against_48 (by decide) ?_
        exact ih_2 (k + 1) H locs ls ⟨(by omega), (hI.trans ((j_cmp_eq c_24 (by omega)).trans (by rw [show min (min mm mm) (min XO.2 XO.2) - k - 1 = min (min mm mm) (min XO.2 XO.2) - (k + 1) by omega]))), hW, hS, (lv_sub hl [1, 2, 3, 0] rfl)⟩ (by omega)
      ·
        refine lv_aload_n hx hb dX3_against_27 rfl (lv_at hl 1 rfl) ?_
        refine lv_iload_n hx hb dX3_against_28 rfl (lv_at hl 3 rfl) ?_
        refine wd_iald hx hb hK.1 hW 0 hR.2.2.2.2.2.2.2.2.1 rfl (vp_in_nI (by omega) (by omega)) dX3_against_29 ?_
        refine wd_topE (y := XU.1 k) (by rw [nI_clamp (by omega)]) ?_
        refine lv_aload_n hx hb dX3_against_30 rfl (lv_at hl 0 rfl) ?_
        refine wd_get (ci := 3) (v := .ref (A 8)) (C := RX3) (T := TX3) (N := 18) hx hb hts (by decide +kernel) hown hK.1 hW hR.1 rfl 14 (by decide) (hts (.fieldLink RX3 38 "CharRowsModel" "others" "[I") (by decide +kernel)) (fun _ h9 => h9) rfl dX3_against_31 ?_
        refine lv_iload_n hx hb dX3_against_34 rfl (lv_at hl 3 rfl) ?_
        refine wd_iald hx hb hK.1 hW 0 hR.2.2.2.2.2.2.2.2.2.1 rfl (vp_in_nI (by omega) (by omega)) dX3_against_35 ?_
        refine wd_topE (y := XO.1 k) (by rw [nI_clamp (by omega)]) ?_
        refine lv_icmp_ge (tgt := 43) hx hb dX3_against_36 (by decide) (fun c_36 => ?_) (fun c_36 => ?_)
        ·
          simp only [i_le, Decidable.not_not] at c_36
          refine lv_iconst (v := 1) hx hb dX3_against_43 (by decide) ?_
          refine wd_iret hx hb hr hlocks hW hS dX3_against_44 ?_
          refine ⟨?_, rfl⟩
          rw [← j_ord_eq (X := (XU.1, mm)) (Y := XO) (Nat.le_refl _) (Nat.le_refl _)]
          rw [j_ord, hI, j_cmp_ne c_24 (by omega)]
          show _ = (if XU.1 k < XO.1 k then _ else _)
          rw [if_neg c_36]
        ·
          simp only [i_le, Decidable.not_not] at c_36
          refine lv_iconst (v := (-1)) hx hb dX3_against_39 (by decide) ?_
          refine lv_goto (tgt := 44) hx hb dX3_against_40 (by decide) ?_
          refine wd_iret hx hb hr hlocks hW hS dX3_against_44 ?_
          refine ⟨?_, rfl⟩
          rw [← j_ord_eq (X := (XU.1, mm)) (Y := XO) (Nat.le_refl _) (Nat.le_refl _)]
          rw [j_ord, hI, j_cmp_ne c_24 (by omega)]
          show _ = (if XU.1 k < XO.1 k then _ else _)
          rw [if_pos c_36]
