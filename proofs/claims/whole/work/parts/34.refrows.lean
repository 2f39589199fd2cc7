set_option maxHeartbeats 4000000 in
set_option maxRecDepth 100000 in
theorem k_X3_freeRow (l : Launch) (D : va_G) (cI cT : ClassId) (w : Wd) (sz : Nat) (m : Nat) (A : Nat → Nat) (fS : Nat → Int32) (fM : Nat → Int32) (fI : Nat → Int32) (cd : Int32) (pl : Int32) (XD : Rw) (XP : Rw) (XU : Rw) (XO : Rw) (XB : Rw) (tx : Nat → Option Nat) (kp : List Nat) (hR : rW cI m A (fun t => oI (tx t)) (kI kp) fS fM fI kp.length cd pl XD XP XU XO XB w) (h10 : ∀ t, 10 ≤ t → tx t = none) (hkp : kp.length ≤ 12) (hlv : ∀ t r, tx t = some r → r < 24) (hk24 : ∀ r ∈ kp, r < 24) : wd_Mi l D vwCl (gK D cI cT) yX3_freeRow wsX3_freeRow (wd_rm 0 0 0) [.ref m] w sz (fun q w' => q = nI (u_free tx kp) ∧ w' = w) := by
  refine wd_met (cc := cX3_freeRow) (maxL := 4) (ret := (some .int)) (by decide) rfl (Nat.le_of_ble_eq_true rfl) ?_
  intro pg ev sg mi bl mt cde ls C0 hsz hK hW hl
  obtain ⟨hx, hb, hr, hml, hown, hts, hlocks, hnm⟩ := C0
  subst hsz
  have hown : sg.vm.findClass RX3 = some mi.cls := hown
  have hS : va_S (wd_A w sg.heap.size) sg.heap sg.heap [] := va_S.rf
  have hA : ∀ q, sg.heap.size ≤ q → wd_A w sg.heap.size q := fun q h => Or.inr h
  have hl : lv_has ls 4 [(0, .ref m)] := hl
  refine lv_iconst (v := 0) hx hb dX3_freeRow_0 (by decide) ?_
  refine lv_istore_n (lv' := [(1, .int 0), (0, .ref m)]) hx hb dX3_freeRow_1 rfl hl (by decide) rfl (fun ls hl => ?_)
  refine wd_loop1 (fun (r : Nat) (H : Heap) (locs : List Loc) (ls : Array Slot) => (r ≤ 24) ∧ (u_fr (u_used tx kp) 24 0 = u_fr (u_used tx kp) (24 - r) r) ∧ wd_P D vwCl (wd_A w sg.heap.size) w H ∧ va_S (wd_A w sg.heap.size) sg.heap H locs ∧ lv_has ls 4 [(0, .ref m), (1, .int (nI r))]) (fun (r : Nat) => 24 - r) 0 ⟨(by omega), rfl, hW, hS, (lv_sub hl [1, 0] rfl)⟩ (fun r H locs ls hI ih_2 => ?_)
  obtain ⟨hr_, hfr, hW, hS, hl⟩ := hI
  refine lv_iload_n hx hb dX3_freeRow_2 rfl (lv_at hl 1 rfl) ?_
  refine lv_bipush (v := 24) hx hb dX3_freeRow_3 (by decide) ?_
  refine lv_icmp_ge (tgt := 92) hx hb dX3_freeRow_5 (by decide) (fun c_5 => ?_) (fun c_5 => ?_)
  ·
    have c_5 : 24 ≤ r := (nI_leI (by omega) (by omega)).mp (show (nI 24 ≤ nI r) from c_5)
    have h9 := (u_free_spec h10 hkp).2
    unfold u_free at h9
    rw [hfr, show r = 24 by omega] at h9
    simp [u_fr] at h9
  ·
    have c_5 : ¬ (24 ≤ r) := fun q9 => absurd ((nI_leI (by omega) (by omega)).mpr q9) (show ¬ (nI 24 ≤ nI r) from c_5)
    refine lv_iconst (v := 0) hx hb dX3_freeRow_8 (by decide) ?_
    refine wd_topE (y := j_b (u1 tx r 0 = true)) (j_bf (by simp [u1])) ?_
    refine lv_istore_n (lv' := [(2, .int (j_b (u1 tx r 0 = true))), (0, .ref m), (1, .int (nI r))]) hx hb dX3_freeRow_9 rfl hl (by decide) rfl (fun ls hl => ?_)
    refine lv_iconst (v := 0) hx hb dX3_freeRow_10 (by decide) ?_
    refine lv_istore_n (lv' := [(3, .int 0), (2, .int (j_b (u1 tx r 0 = true))), (0, .ref m), (1, .int (nI r))]) hx hb dX3_freeRow_11 rfl hl (by decide) rfl (fun ls hl => ?_)
    refine wd_loop1 (fun (t : Nat) (H : Heap) (locs : List Loc) (ls : Array Slot) => (t ≤ 10) ∧ wd_P D vwCl (wd_A w sg.heap.size) w H ∧ va_S (wd_A w sg.heap.size) sg.heap H locs ∧ lv_has ls 4 [(0, .ref m), (1, .int (nI r)), (2, .int (j_b (u1 tx r t = true))), (3, .int (nI t))]) (fun (t : Nat) => 10 - t) 0 ⟨(by omega), hW, hS, (lv_sub hl [2, 3, 1, 0] rfl)⟩ (fun t H locs ls hI ih_12 => ?_)
    obtain ⟨ht, hW, hS, hl⟩ := hI
    refine lv_iload_n hx hb dX3_freeRow_12 rfl (lv_at hl 3 rfl) ?_
    refine lv_bipush (v := 10) hx hb dX3_freeRow_13 (by decide) ?_
    refine lv_icmp_ge (tgt := 44) hx hb dX3_freeRow_15 (by decide) (fun c_15 => ?_) (fun c_15 => ?_)
    ·
      have c_15 : 10 ≤ t := (nI_leI (by omega) (by omega)).mp (show (nI 10 ≤ nI t) from c_15)
      rw [show j_b (u1 tx r t = true) = j_b ((u1 tx r 10 || u2 kp r 0) = true) from j_bc' (by rw [show t = 10 by omega]; simp [u2])] at hl
      refine lv_iconst (v := 0) hx hb dX3_freeRow_44 (by decide) ?_
      refine lv_istore_n (lv' := [(3, .int 0), (0, .ref m), (1, .int (nI r)), (2, .int (j_b ((u1 tx r 10 || u2 kp r 0) = true)))]) hx hb dX3_freeRow_45 rfl hl (by decide) rfl (fun ls hl => ?_)
      refine wd_loop1 (fun (k : Nat) (H : Heap) (locs : List Loc) (ls : Array Slot) => (k ≤ kp.length) ∧ wd_P D vwCl (wd_A w sg.heap.size) w H ∧ va_S (wd_A w sg.heap.size) sg.heap H locs ∧ lv_has ls 4 [(0, .ref m), (1, .int (nI r)), (2, .int (j_b ((u1 tx r 10 || u2 kp r k) = true))), (3, .int (nI k))]) (fun (k : Nat) => kp.length - k) 0 ⟨(by omega), hW, hS, (lv_sub hl [1, 2, 3, 0] rfl)⟩ (fun k H locs ls hI ih_46 => ?_)
      obtain ⟨hk, hW, hS, hl⟩ := hI
      refine lv_iload_n hx hb dX3_freeRow_46 rfl (lv_at hl 3 rfl) ?_
      refine lv_aload_n hx hb dX3_freeRow_47 rfl (lv_at hl 0 rfl) ?_
      refine wd_get (ci := 3) (v := .int (nI kp.length)) (C := RX3) (T := TX3) (N := 18) hx hb hts (by decide +kernel) hown hK.1 hW hR.1 rfl 2 (by decide) (hts (.fieldLink RX3 60 "CharRowsModel" "kept" "I") (by decide +kernel)) (fun _ h9 => h9) rfl dX3_freeRow_48 ?_
      refine lv_icmp_ge (tgt := 80) hx hb dX3_freeRow_51 (by decide) (fun c_51 => ?_) (fun c_51 => ?_)
      ·
        have c_51 : kp.length ≤ k := (nI_leI (by omega) (by omega)).mp (show (nI kp.length ≤ nI k) from c_51)
        refine lv_iload_n hx hb dX3_freeRow_80 rfl (lv_at hl 2 rfl) ?_
        refine lv_if_ne (tgt := 86) hx hb dX3_freeRow_81 (by decide) (fun c_81 => ?_) (fun c_81 => ?_)
        ·
          have c_81 := j_bn c_81
          rw [show k = kp.length by omega, u12] at c_81
          refine lv_iinc (v := nI (r + 1)) (lv' := [(1, .int (nI (r + 1))), (0, .ref m), (2, .int (j_b ((u1 tx r 10 || u2 kp r k) = true))), (3, .int (nI k))]) hx hb dX3_freeRow_86 hl (k := 1) rfl (nI_add r 1) (by decide) rfl (fun ls hl => ?_)
          refine lv_goto (tgt := 2) hx hb dX3_freeRow_89 (by decide) ?_
          exact ih_2 (r + 1) H locs ls ⟨(by omega), (hfr.trans ((u_fr_miss (by omega) c_81).trans (by rw [show 24 - r - 1 = 24 - (r + 1) by omega]))), hW, hS, (lv_sub hl [1, 0] rfl)⟩ (by omega)
        ·
          have c_81 := j_b0 c_81
          rw [show k = kp.length by omega, u12] at c_81
          refine lv_iload_n hx hb dX3_freeRow_84 rfl (lv_at hl 1 rfl) ?_
          refine wd_iret hx hb hr hlocks hW hS dX3_freeRow_85 ?_
          exact ⟨by unfold u_free; rw [hfr, u_fr_hit (by omega) c_81], rfl⟩
      ·
        have c_51 : ¬ (kp.length ≤ k) := fun q9 => absurd ((nI_leI (by omega) (by omega)).mpr q9) (show ¬ (nI kp.length ≤ nI k) from c_51)
        obtain ⟨rk_k, hrk_k⟩ : ∃ x, kp[k]? = some x := ⟨_, List.getElem?_eq_getElem (by omega)⟩
        have hrk24_k := hk24 rk_k (List.mem_of_getElem? hrk_k)
        refine lv_iload_n hx hb dX3_freeRow_54 rfl (lv_at hl 2 rfl) ?_
        refine lv_if_ne (tgt := 68) hx hb dX3_freeRow_55 (by decide) (fun c_55 => ?_) (fun c_55 => ?_)
        ·
          have c_55 := j_bn c_55
          refine lv_iconst (v := 1) hx hb dX3_freeRow_68 (by decide) ?_
          refine wd_topE (y := j_b ((u1 tx r 10 || u2 kp r (k + 1)) = true)) (j_bt (by rw [u2_succ hrk_k, ← Bool.or_assoc, c_55]; rfl)) ?_
          refine lv_goto (tgt := 73) hx hb dX3_freeRow_69 (by decide) ?_
          refine lv_istore_n (lv' := [(2, .int (j_b ((u1 tx r 10 || u2 kp r (k + 1)) = true))), (0, .ref m), (1, .int (nI r)), (3, .int (nI k))]) hx hb dX3_freeRow_73 rfl hl (by decide) rfl (fun ls hl => ?_)
          refine lv_iinc (v := nI (k + 1)) (lv' := [(3, .int (nI (k + 1))), (2, .int (j_b ((u1 tx r 10 || u2 kp r (k + 1)) = true))), (0, .ref m), (1, .int (nI r))]) hx hb dX3_freeRow_74 hl (k := 3) rfl (nI_add k 1) (by decide) rfl (fun ls hl => ?_)
          refine lv_goto (tgt := 46) hx hb dX3_freeRow_77 (by decide) ?_
          exact ih_46 (k + 1) H locs ls ⟨(by omega), hW, hS, (lv_sub hl [2, 3, 1, 0] rfl)⟩ (by omega)
        ·
          have c_55 := j_b0 c_55
          refine lv_aload_n hx hb dX3_freeRow_58 rfl (lv_at hl 0 rfl) ?_
          refine wd_get (ci := 3) (v := .ref (A 1)) (C := RX3) (T := TX3) (N := 18) hx hb hts (by decide +kernel) hown hK.1 hW hR.1 rfl 1 (by decide) (hts (.fieldLink RX3 13 "CharRowsModel" "keptRow" "[I") (by decide +kernel)) (fun _ h9 => h9) rfl dX3_freeRow_59 ?_
          refine lv_iload_n hx hb dX3_freeRow_62 rfl (lv_at hl 3 rfl) ?_
          refine wd_iald hx hb hK.1 hW 0 hR.2.2.1 rfl (vp_in_nI (by omega) (by omega)) dX3_freeRow_63 ?_
          refine wd_topE (y := nI rk_k) (by rw [nI_clamp (by omega)]; exact kI_at hrk_k) ?_
          refine lv_iload_n hx hb dX3_freeRow_64 rfl (lv_at hl 1 rfl) ?_
          refine lv_icmp_ne (tgt := 72) hx hb dX3_freeRow_65 (by decide) (fun c_65 => ?_) (fun c_65 => ?_)
          ·
            have c_65 : ¬ (rk_k = r) := fun q9 => absurd ((nI_eq (by omega) (by omega)).mpr q9) (show ¬ (nI rk_k = nI r) from c_65)
            refine lv_iconst (v := 0) hx hb dX3_freeRow_72 (by decide) ?_
            refine wd_topE (y := j_b ((u1 tx r 10 || u2 kp r (k + 1)) = true)) (j_bf (by rw [u2_succ hrk_k, ← Bool.or_assoc, Bool.or_eq_true]; exact fun q => q.elim c_55 (fun z => c_65 (by simpa using z)))) ?_
            refine lv_istore_n (lv' := [(2, .int (j_b ((u1 tx r 10 || u2 kp r (k + 1)) = true))), (0, .ref m), (1, .int (nI r)), (3, .int (nI k))]) hx hb dX3_freeRow_73 rfl hl (by decide) rfl (fun ls hl => ?_)
            refine lv_iinc (v := nI (k + 1)) (lv' := [(3, .int (nI (k + 1))), (2, .int (j_b ((u1 tx r 10 || u2 kp r (k + 1)) = true))), (0, .ref m), (1, .int (nI r))]) hx hb dX3_freeRow_74 hl (k := 3) rfl (nI_add k 1) (by decide) rfl (fun ls hl => ?_)
            refine lv_goto (tgt := 46) hx hb dX3_freeRow_77 (by decide) ?_
            exact ih_46 (k + 1) H locs ls ⟨(by omega), hW, hS, (lv_sub hl [2, 3, 1, 0] rfl)⟩ (by omega)
          ·
            have c_65 : rk_k = r := (nI_eq (by omega) (by omega)).mp (show (nI rk_k = nI r) from c_65)
            refine lv_iconst (v := 1) hx hb dX3_freeRow_68 (by decide) ?_
            refine wd_topE (y := j_b ((u1 tx r 10 || u2 kp r (k + 1)) = true)) (j_bt (by rw [u2_succ hrk_k, ← Bool.or_assoc, c_65]; simp)) ?_
            refine lv_goto (tgt := 73) hx hb dX3_freeRow_69 (by decide) ?_
            refine lv_istore_n (lv' := [(2, .int (j_b ((u1 tx r 10 || u2 kp r (k + 1)) = true))), (0, .ref m), (1, .int (nI r)), (3, .int (nI k))]) hx hb dX3_freeRow_73 rfl hl (by decide) rfl (fun ls hl => ?_)
            refine lv_iinc (v := nI (k + 1)) (lv' := [(3, .int (nI (k + 1))), (2, .int (j_b ((u1 tx r 10 || u2 kp r (k + 1)) = true))), (0, .ref m), (1, .int (nI r))]) hx hb dX3_freeRow_74 hl (k := 3) rfl (nI_add k 1) (by decide) rfl (fun ls hl => ?_)
            refine lv_goto (tgt := 46) hx hb dX3_freeRow_77 (by decide) ?_
            exact ih_46 (k + 1) H locs ls ⟨(by omega), hW, hS, (lv_sub hl [2, 3, 1, 0] rfl)⟩ (by omega)
    ·
      have c_15 : ¬ (10 ≤ t) := fun q9 => absurd ((nI_leI (by omega) (by omega)).mpr q9) (show ¬ (nI 10 ≤ nI t) from c_15)
      refine lv_iload_n hx hb dX3_freeRow_18 rfl (lv_at hl 2 rfl) ?_
      refine lv_if_ne (tgt := 32) hx hb dX3_freeRow_19 (by decide) (fun c_19 => ?_) (fun c_19 => ?_)
      ·
        have c_19 := j_bn c_19
        refine lv_iconst (v := 1) hx hb dX3_freeRow_32 (by decide) ?_
        refine wd_topE (y := j_b (u1 tx r (t + 1) = true)) (j_bt (by rw [u1_succ, c_19]; rfl)) ?_
        refine lv_goto (tgt := 37) hx hb dX3_freeRow_33 (by decide) ?_
        refine lv_istore_n (lv' := [(2, .int (j_b (u1 tx r (t + 1) = true))), (0, .ref m), (1, .int (nI r)), (3, .int (nI t))]) hx hb dX3_freeRow_37 rfl hl (by decide) rfl (fun ls hl => ?_)
        refine lv_iinc (v := nI (t + 1)) (lv' := [(3, .int (nI (t + 1))), (2, .int (j_b (u1 tx r (t + 1) = true))), (0, .ref m), (1, .int (nI r))]) hx hb dX3_freeRow_38 hl (k := 3) rfl (nI_add t 1) (by decide) rfl (fun ls hl => ?_)
        refine lv_goto (tgt := 12) hx hb dX3_freeRow_41 (by decide) ?_
        exact ih_12 (t + 1) H locs ls ⟨(by omega), hW, hS, (lv_sub hl [2, 3, 1, 0] rfl)⟩ (by omega)
      ·
        have c_19 := j_b0 c_19
        refine lv_aload_n hx hb dX3_freeRow_22 rfl (lv_at hl 0 rfl) ?_
        refine wd_get (ci := 3) (v := .ref (A 0)) (C := RX3) (T := TX3) (N := 18) hx hb hts (by decide +kernel) hown hK.1 hW hR.1 rfl 0 (by decide) (hts (.fieldLink RX3 7 "CharRowsModel" "textRow" "[I") (by decide +kernel)) (fun _ h9 => h9) rfl dX3_freeRow_23 ?_
        refine lv_iload_n hx hb dX3_freeRow_26 rfl (lv_at hl 3 rfl) ?_
        refine wd_iald hx hb hK.1 hW 0 hR.2.1 rfl (vp_in_nI (by omega) (by omega)) dX3_freeRow_27 ?_
        refine wd_topE (y := oI (tx t)) (by rw [nI_clamp (by omega)]) ?_
        refine lv_iload_n hx hb dX3_freeRow_28 rfl (lv_at hl 1 rfl) ?_
        refine lv_icmp_ne (tgt := 36) hx hb dX3_freeRow_29 (by decide) (fun c_29 => ?_) (fun c_29 => ?_)
        ·
          refine lv_iconst (v := 0) hx hb dX3_freeRow_36 (by decide) ?_
          refine wd_topE (y := j_b (u1 tx r (t + 1) = true)) (j_bf (by rw [u1_succ, Bool.or_eq_true]; exact fun q => q.elim c_19 (fun z => c_29 ((oI_eq (hlv t) (by omega)).mpr (by simpa using z))))) ?_
          refine lv_istore_n (lv' := [(2, .int (j_b (u1 tx r (t + 1) = true))), (0, .ref m), (1, .int (nI r)), (3, .int (nI t))]) hx hb dX3_freeRow_37 rfl hl (by decide) rfl (fun ls hl => ?_)
          refine lv_iinc (v := nI (t + 1)) (lv' := [(3, .int (nI (t + 1))), (2, .int (j_b (u1 tx r (t + 1) = true))), (0, .ref m), (1, .int (nI r))]) hx hb dX3_freeRow_38 hl (k := 3) rfl (nI_add t 1) (by decide) rfl (fun ls hl => ?_)
          refine lv_goto (tgt := 12) hx hb dX3_freeRow_41 (by decide) ?_
          exact ih_12 (t + 1) H locs ls ⟨(by omega), hW, hS, (lv_sub hl [2, 3, 1, 0] rfl)⟩ (by omega)
        ·
          refine lv_iconst (v := 1) hx hb dX3_freeRow_32 (by decide) ?_
          refine wd_topE (y := j_b (u1 tx r (t + 1) = true)) (j_bt (by rw [u1_succ, (oI_eq (hlv t) (by omega)).mp c_29]; simp)) ?_
          refine lv_goto (tgt := 37) hx hb dX3_freeRow_33 (by decide) ?_
          refine lv_istore_n (lv' := [(2, .int (j_b (u1 tx r (t + 1) = true))), (0, .ref m), (1, .int (nI r)), (3, .int (nI t))]) hx hb dX3_freeRow_37 rfl hl (by decide) rfl (fun ls hl => ?_)
          refine lv_iinc (v := nI (t + 1)) (lv' := [(3, .int (nI (t + 1))), (2, .int (j_b (u1 tx r (t + 1) = true))), (0, .ref m), (1, .int (nI r))]) hx hb dX3_freeRow_38 hl (k := 3) rfl (nI_add t 1) (by decide) rfl (fun ls hl => ?_)
          refine lv_goto (tgt := 12) hx hb dX3_freeRow_41 (by decide) ?_
          exact ih_12 (t + 1) H locs ls ⟨(by omega), hW, hS, (lv_sub hl [2, 3, 1, 0] rfl)⟩ (by omega)
set_option maxHeartbeats 4000000 in
set_option maxRecDepth 100000 in
theorem k_X3_become6 (l : Launch) (D : va_G) (cI cT : ClassId) (w : Wd) (sz : Nat) (m : Nat) (A : Nat → Nat) (fI : Nat → Int32) (cd : Int32) (pl : Int32) (XD : Rw) (XP : Rw) (XU : Rw) (XO : Rw) (XB : Rw) (tx : Nat → Option Nat) (kp : List Nat) (rs : Rws) (tN : Nat) (kd : Int32) (mm : Nat) (hR : rW cI m A (fun t => oI (tx t)) (kI kp) (fun r => (rs r).1) (fun r => nI (rs r).2.length) fI kp.length cd pl XD XP XU XO XB w) (htN : tN < 10) (h10 : ∀ t, 10 ≤ t → tx t = none) (hkp : kp.length ≤ 12) (hlv : ∀ t r, tx t = some r → r < 24) (hk24 : ∀ r ∈ kp, r < 24) (hit : rIt rs fI) (hmm : mm ≤ 240) : wd_Mi l D vwCl (gK D cI cT) yX3_become wsX3_become (wd_rm 1 0 0) [.ref m, .int (nI tN), .int kd, .ref (A 6), .int (nI mm)] w sz (fun q w' => q = nI mm ∧ ∃ f', rIt (va_up rs (u_free tx kp) (kd, (rl (XP.1, mm)))) f' ∧ rW cI m A (fun t => oI ((va_up tx tN (some (u_free tx kp))) t)) (kI kp) (fun r => ((va_up rs (u_free tx kp) (kd, (rl (XP.1, mm)))) r).1) (fun r => nI ((va_up rs (u_free tx kp) (kd, (rl (XP.1, mm)))) r).2.length) f' kp.length 0 pl XD XP XU XO XB w') := by
  refine wd_met (cc := cX3_become) (maxL := 7) (ret := (some .int)) (by decide) rfl (Nat.le_of_ble_eq_true rfl) ?_
  intro pg ev sg mi bl mt cde ls C0 hsz hK hW hl
  obtain ⟨hx, hb, hr, hml, hown, hts, hlocks, hnm⟩ := C0
  subst hsz
  have hown : sg.vm.findClass RX3 = some mi.cls := hown
  have hS : va_S (wd_A w sg.heap.size) sg.heap sg.heap [] := va_S.rf
  have hA : ∀ q, sg.heap.size ≤ q → wd_A w sg.heap.size q := fun q h => Or.inr h
  have hl : lv_has ls 7 [(0, .ref m), (1, .int (nI tN)), (2, .int kd), (3, .ref (A 6)), (4, .int (nI mm))] := hl
  have hf24 := (u_free_spec h10 hkp).2
  refine lv_aload_n hx hb dX3_become_0 rfl (lv_at hl 0 rfl) ?_
  refine wd_callVi (As := []) (rest := []) (c2 := 0) (s2 := 0) ⟨hx, hb, hml, hown, hts⟩ (k_X3_freeRow l D cI cT w sg.heap.size m A (fun r => (rs r).1) (fun r => nI (rs r).2.length) fI cd pl XD XP XU XO XB tx kp hR h10 hkp hlv hk24) (cwV 0 hts gX3_become_X3_freeRow rfl rfl rfl (by decide +kernel) ⟨Nat.le_of_ble_eq_true rfl, Nat.le_of_ble_eq_true rfl⟩) gK_ok hK hW (wd_recv (ci := 3) hK.1 hW rfl hR.1) hS hA rfl hl.1 rfl (Nat.le_of_ble_eq_true rfl) dX3_become_1 ⟨Nat.le_of_ble_eq_true rfl, Nat.le_of_ble_eq_true rfl⟩ rfl rfl (fun r_1 w_1 H locs hp_1 hW hz hS => ?_)
  obtain ⟨q_r, q_w⟩ := hp_1
  subst r_1
  subst w_1
  refine lv_istore (lv' := [(5, .int (nI (u_free tx kp))), (0, .ref m), (1, .int (nI tN)), (2, .int kd), (3, .ref (A 6)), (4, .int (nI mm))]) hx hb dX3_become_4 hl (by decide) rfl (fun ls hl => ?_)
  refine lv_aload_n hx hb dX3_become_6 rfl (lv_at hl 1 rfl) ?_
  refine wd_get (ci := 3) (v := .ref (A 2)) (C := RX3) (T := TX3) (N := 18) hx hb hts (by decide +kernel) hown hK.1 hW hR.1 rfl 3 (by decide) (hts (.fieldLink RX3 16 "CharRowsModel" "rowSort" "[I") (by decide +kernel)) (fun _ h9 => h9) rfl dX3_become_7 ?_
  refine lv_iload hx hb dX3_become_10 (lv_at hl 0 rfl) ?_
  refine lv_iload_n hx hb dX3_become_12 rfl (lv_at hl 3 rfl) ?_
  refine wd_iast hx hb hK.1 hW hS 0 hR.2.2.2.1 rfl (vp_in_nI (by omega) (by omega)) dX3_become_13 (fun H locs hW hS => ?_)
  rw [nI_clamp (by omega)] at hW
  obtain ⟨w_v1, hW, hR⟩ : ∃ w', wd_P D vwCl (wd_A w sg.heap.size) w' H ∧ rW cI m A (fun t => oI (tx t)) (kI kp) (upd (fun r => (rs r).1) (u_free tx kp) kd) (fun r => nI (rs r).2.length) fI kp.length cd pl XD XP XU XO XB w' := ⟨_, hW, hR.afS (upd (fun r => (rs r).1) (u_free tx kp) kd)⟩
  refine lv_aload_n hx hb dX3_become_14 rfl (lv_at hl 1 rfl) ?_
  refine wd_get (ci := 3) (v := .ref (A 3)) (C := RX3) (T := TX3) (N := 18) hx hb hts (by decide +kernel) hown hK.1 hW hR.1 rfl 4 (by decide) (hts (.fieldLink RX3 19 "CharRowsModel" "rowMany" "[I") (by decide +kernel)) (fun _ h9 => h9) rfl dX3_become_15 ?_
  refine lv_iload hx hb dX3_become_18 (lv_at hl 0 rfl) ?_
  refine lv_iload hx hb dX3_become_20 (lv_at hl 5 rfl) ?_
  refine wd_iast hx hb hK.1 hW hS 0 hR.2.2.2.2.1 rfl (vp_in_nI (by omega) (by omega)) dX3_become_22 (fun H locs hW hS => ?_)
  rw [nI_clamp (by omega)] at hW
  obtain ⟨w_v2, hW, hR⟩ : ∃ w', wd_P D vwCl (wd_A w sg.heap.size) w' H ∧ rW cI m A (fun t => oI (tx t)) (kI kp) (upd (fun r => (rs r).1) (u_free tx kp) kd) (upd (fun r => nI (rs r).2.length) (u_free tx kp) (nI mm)) fI kp.length cd pl XD XP XU XO XB w' := ⟨_, hW, hR.afM (upd (fun r => nI (rs r).2.length) (u_free tx kp) (nI mm))⟩
  refine lv_iconst (v := 0) hx hb dX3_become_23 (by decide) ?_
  refine lv_istore (lv' := [(6, .int 0), (5, .int (nI (u_free tx kp))), (0, .ref m), (1, .int (nI tN)), (2, .int kd), (3, .ref (A 6)), (4, .int (nI mm))]) hx hb dX3_become_24 hl (by decide) rfl (fun ls hl => ?_)
  refine wd_loop1 (fun (k : Nat) (H : Heap) (locs : List Loc) (ls : Array Slot) => (k ≤ mm) ∧ (∃ w', wd_P D vwCl (wd_A w sg.heap.size) w' H ∧ rW cI m A (fun t => oI (tx t)) (kI kp) (upd (fun r => (rs r).1) (u_free tx kp) kd) (upd (fun r => nI (rs r).2.length) (u_free tx kp) (nI mm)) (layN (240 * (u_free tx kp)) XP.1 k fI) kp.length cd pl XD XP XU XO XB w') ∧ va_S (wd_A w sg.heap.size) sg.heap H locs ∧ lv_has ls 7 [(0, .ref m), (1, .int (nI tN)), (2, .int kd), (3, .ref (A 6)), (4, .int (nI mm)), (5, .int (nI (u_free tx kp))), (6, .int (nI k))]) (fun (k : Nat) => mm - k) 0 ⟨(by omega), ⟨_, hW, hR⟩, hS, (lv_sub hl [2, 3, 4, 5, 6, 1, 0] rfl)⟩ (fun k H locs ls hI ih_26 => ?_)
  obtain ⟨hk, ⟨w_l26, hW, hR⟩, hS, hl⟩ := hI
  refine lv_iload hx hb dX3_become_26 (lv_at hl 6 rfl) ?_
  refine lv_iload hx hb dX3_become_28 (lv_at hl 4 rfl) ?_
  refine lv_icmp_ge (tgt := 57) hx hb dX3_become_30 (by decide) (fun c_30 => ?_) (fun c_30 => ?_)
  ·
    have c_30 : mm ≤ k := (nI_leI (by omega) (by omega)).mp (show (nI mm ≤ nI k) from c_30)
    refine lv_aload_n hx hb dX3_become_57 rfl (lv_at hl 0 rfl) ?_
    refine wd_get (ci := 3) (v := .ref (A 0)) (C := RX3) (T := TX3) (N := 18) hx hb hts (by decide +kernel) hown hK.1 hW hR.1 rfl 0 (by decide) (hts (.fieldLink RX3 7 "CharRowsModel" "textRow" "[I") (by decide +kernel)) (fun _ h9 => h9) rfl dX3_become_58 ?_
    refine lv_iload_n hx hb dX3_become_61 rfl (lv_at hl 1 rfl) ?_
    refine lv_iload hx hb dX3_become_62 (lv_at hl 5 rfl) ?_
    refine wd_iast hx hb hK.1 hW hS 0 hR.2.1 rfl (vp_in_nI (by omega) (by omega)) dX3_become_64 (fun H locs hW hS => ?_)
    rw [nI_clamp (by omega)] at hW
    obtain ⟨w_v3, hW, hR⟩ : ∃ w', wd_P D vwCl (wd_A w sg.heap.size) w' H ∧ rW cI m A (upd (fun t => oI (tx t)) tN (nI (u_free tx kp))) (kI kp) (upd (fun r => (rs r).1) (u_free tx kp) kd) (upd (fun r => nI (rs r).2.length) (u_free tx kp) (nI mm)) (layN (240 * (u_free tx kp)) XP.1 k fI) kp.length cd pl XD XP XU XO XB w' := ⟨_, hW, hR.afT (upd (fun t => oI (tx t)) tN (nI (u_free tx kp)))⟩
    refine lv_aload_n hx hb dX3_become_65 rfl (lv_at hl 0 rfl) ?_
    refine lv_iload hx hb dX3_become_66 (lv_at hl 4 rfl) ?_
    refine wd_callVi (As := [.int (nI mm)]) (rest := []) (c2 := 0) (s2 := 0) ⟨hx, hb, hml, hown, hts⟩ (k_X3_yes l D cI cT w_v3 H.size m A (upd (fun t => oI (tx t)) tN (nI (u_free tx kp))) (kI kp) (upd (fun r => (rs r).1) (u_free tx kp) kd) (upd (fun r => nI (rs r).2.length) (u_free tx kp) (nI mm)) (layN (240 * (u_free tx kp)) XP.1 k fI) kp.length cd pl XD XP XU XO XB (nI mm) hR) (cwV 1 hts gX3_become_X3_yes rfl rfl rfl (by decide +kernel) ⟨Nat.le_of_ble_eq_true rfl, Nat.le_of_ble_eq_true rfl⟩) gK_ok hK hW (wd_recv (ci := 3) hK.1 hW rfl hR.1) hS hA rfl hl.1 rfl (Nat.le_of_ble_eq_true rfl) dX3_become_68 ⟨Nat.le_of_ble_eq_true rfl, Nat.le_of_ble_eq_true rfl⟩ rfl rfl (fun r_68 w_68 H locs hp_68 hW hz hS => ?_)
    obtain ⟨q_r, hR⟩ := hp_68
    subst r_68
    refine wd_iret hx hb hr hlocks hW hS dX3_become_71 ?_
    refine ⟨rfl, layN (240 * (u_free tx kp)) XP.1 mm fI, rIt_new hit hf24 hmm, ?_⟩
    rw [upT, upS rs (u_free tx kp) kd (rl (XP.1, mm)), upM rs (u_free tx kp) kd (rl (XP.1, mm)) (rl_len _), show k = mm by omega] at hR
    exact hR
  ·
    have c_30 : ¬ (mm ≤ k) := fun q9 => absurd ((nI_leI (by omega) (by omega)).mpr q9) (show ¬ (nI mm ≤ nI k) from c_30)
    refine lv_aload_n hx hb dX3_become_33 rfl (lv_at hl 0 rfl) ?_
    refine wd_get (ci := 3) (v := .ref (A 4)) (C := RX3) (T := TX3) (N := 18) hx hb hts (by decide +kernel) hown hK.1 hW hR.1 rfl 5 (by decide) (hts (.fieldLink RX3 22 "CharRowsModel" "rowItem" "[I") (by decide +kernel)) (fun _ h9 => h9) rfl dX3_become_34 ?_
    refine lv_sipush (v := 240) hx hb dX3_become_37 (by decide) ?_
    refine lv_iload hx hb dX3_become_40 (lv_at hl 5 rfl) ?_
    refine lv_imul hx hb dX3_become_42 ?_
    refine wd_topE (y := nI (240 * (u_free tx kp))) (pk_mul 240 _) ?_
    refine lv_iload hx hb dX3_become_43 (lv_at hl 6 rfl) ?_
    refine lv_iadd hx hb dX3_become_45 ?_
    refine wd_topE (y := nI (240 * (u_free tx kp) + k)) (nI_add _ _) ?_
    refine lv_aload_n hx hb dX3_become_46 rfl (lv_at hl 3 rfl) ?_
    refine lv_iload hx hb dX3_become_47 (lv_at hl 6 rfl) ?_
    refine wd_iald hx hb hK.1 hW 0 hR.2.2.2.2.2.2.2.1 rfl (vp_in_nI (by omega) (by omega)) dX3_become_49 ?_
    refine wd_topE (y := XP.1 k) (by rw [nI_clamp (by omega)]) ?_
    refine wd_iast hx hb hK.1 hW hS 0 hR.2.2.2.2.2.1 rfl (vp_in_nI (by omega) (by omega)) dX3_become_50 (fun H locs hW hS => ?_)
    rw [nI_clamp (by omega)] at hW
    obtain ⟨w_v4, hW, hR⟩ : ∃ w', wd_P D vwCl (wd_A w sg.heap.size) w' H ∧ rW cI m A (fun t => oI (tx t)) (kI kp) (upd (fun r => (rs r).1) (u_free tx kp) kd) (upd (fun r => nI (rs r).2.length) (u_free tx kp) (nI mm)) (upd (layN (240 * (u_free tx kp)) XP.1 k fI) (240 * (u_free tx kp) + k) (XP.1 k)) kp.length cd pl XD XP XU XO XB w' := ⟨_, hW, hR.afI (upd (layN (240 * (u_free tx kp)) XP.1 k fI) (240 * (u_free tx kp) + k) (XP.1 k))⟩
    refine lv_iinc (v := nI (k + 1)) (lv' := [(6, .int (nI (k + 1))), (0, .ref m), (1, .int (nI tN)), (2, .int kd), (3, .ref (A 6)), (4, .int (nI mm)), (5, .int (nI (u_free tx kp)))]) hx hb dX3_become_51 hl (k := 6) rfl (nI_add k 1) (by decide) rfl (fun ls hl => ?_)
    refine lv_goto (tgt := 26) hx hb dX3_become_54 (by decide) ?_
    exact ih_26 (k + 1) H locs ls ⟨(by omega), ⟨_, hW, hR⟩, hS, (lv_sub hl [1, 2, 3, 4, 5, 6, 0] rfl)⟩ (by omega)
set_option maxHeartbeats 4000000 in
set_option maxRecDepth 100000 in
theorem k_X3_become7 (l : Launch) (D : va_G) (cI cT : ClassId) (w : Wd) (sz : Nat) (m : Nat) (A : Nat → Nat) (fI : Nat → Int32) (cd : Int32) (pl : Int32) (XD : Rw) (XP : Rw) (XU : Rw) (XO : Rw) (XB : Rw) (tx : Nat → Option Nat) (kp : List Nat) (rs : Rws) (tN : Nat) (kd : Int32) (mm : Nat) (hR : rW cI m A (fun t => oI (tx t)) (kI kp) (fun r => (rs r).1) (fun r => nI (rs r).2.length) fI kp.length cd pl XD XP XU XO XB w) (htN : tN < 10) (h10 : ∀ t, 10 ≤ t → tx t = none) (hkp : kp.length ≤ 12) (hlv : ∀ t r, tx t = some r → r < 24) (hk24 : ∀ r ∈ kp, r < 24) (hit : rIt rs fI) (hmm : mm ≤ 240) : wd_Mi l D vwCl (gK D cI cT) yX3_become wsX3_become (wd_rm 1 0 0) [.ref m, .int (nI tN), .int kd, .ref (A 7), .int (nI mm)] w sz (fun q w' => q = nI mm ∧ ∃ f', rIt (va_up rs (u_free tx kp) (kd, (rl (XU.1, mm)))) f' ∧ rW cI m A (fun t => oI ((va_up tx tN (some (u_free tx kp))) t)) (kI kp) (fun r => ((va_up rs (u_free tx kp) (kd, (rl (XU.1, mm)))) r).1) (fun r => nI ((va_up rs (u_free tx kp) (kd, (rl (XU.1, mm)))) r).2.length) f' kp.length 0 pl XD XP XU XO XB w') := by
  refine wd_met (cc := cX3_become) (maxL := 7) (ret := (some .int)) (by decide) rfl (Nat.le_of_ble_eq_true rfl) ?_
  intro pg ev sg mi bl mt cde ls C0 hsz hK hW hl
  obtain ⟨hx, hb, hr, hml, hown, hts, hlocks, hnm⟩ := C0
  subst hsz
  have hown : sg.vm.findClass RX3 = some mi.cls := hown
  have hS : va_S (wd_A w sg.heap.size) sg.heap sg.heap [] := va_S.rf
  have hA : ∀ q, sg.heap.size ≤ q → wd_A w sg.heap.size q := fun q h => Or.inr h
  have hl : lv_has ls 7 [(0, .ref m), (1, .int (nI tN)), (2, .int kd), (3, .ref (A 7)), (4, .int (nI mm))] := hl
  have hf24 := (u_free_spec h10 hkp).2
  refine lv_aload_n hx hb dX3_become_0 rfl (lv_at hl 0 rfl) ?_
  refine wd_callVi (As := []) (rest := []) (c2 := 0) (s2 := 0) ⟨hx, hb, hml, hown, hts⟩ (k_X3_freeRow l D cI cT w sg.heap.size m A (fun r => (rs r).1) (fun r => nI (rs r).2.length) fI cd pl XD XP XU XO XB tx kp hR h10 hkp hlv hk24) (cwV 0 hts gX3_become_X3_freeRow rfl rfl rfl (by decide +kernel) ⟨Nat.le_of_ble_eq_true rfl, Nat.le_of_ble_eq_true rfl⟩) gK_ok hK hW (wd_recv (ci := 3) hK.1 hW rfl hR.1) hS hA rfl hl.1 rfl (Nat.le_of_ble_eq_true rfl) dX3_become_1 ⟨Nat.le_of_ble_eq_true rfl, Nat.le_of_ble_eq_true rfl⟩ rfl rfl (fun r_1 w_1 H locs hp_1 hW hz hS => ?_)
  obtain ⟨q_r, q_w⟩ := hp_1
  subst r_1
  subst w_1
  refine lv_istore (lv' := [(5, .int (nI (u_free tx kp))), (0, .ref m), (1, .int (nI tN)), (2, .int kd), (3, .ref (A 7)), (4, .int (nI mm))]) hx hb dX3_become_4 hl (by decide) rfl (fun ls hl => ?_)
  refine lv_aload_n hx hb dX3_become_6 rfl (lv_at hl 1 rfl) ?_
  refine wd_get (ci := 3) (v := .ref (A 2)) (C := RX3) (T := TX3) (N := 18) hx hb hts (by decide +kernel) hown hK.1 hW hR.1 rfl 3 (by decide) (hts (.fieldLink RX3 16 "CharRowsModel" "rowSort" "[I") (by decide +kernel)) (fun _ h9 => h9) rfl dX3_become_7 ?_
  refine lv_iload hx hb dX3_become_10 (lv_at hl 0 rfl) ?_
  refine lv_iload_n hx hb dX3_become_12 rfl (lv_at hl 3 rfl) ?_
  refine wd_iast hx hb hK.1 hW hS 0 hR.2.2.2.1 rfl (vp_in_nI (by omega) (by omega)) dX3_become_13 (fun H locs hW hS => ?_)
  rw [nI_clamp (by omega)] at hW
  obtain ⟨w_v1, hW, hR⟩ : ∃ w', wd_P D vwCl (wd_A w sg.heap.size) w' H ∧ rW cI m A (fun t => oI (tx t)) (kI kp) (upd (fun r => (rs r).1) (u_free tx kp) kd) (fun r => nI (rs r).2.length) fI kp.length cd pl XD XP XU XO XB w' := ⟨_, hW, hR.afS (upd (fun r => (rs r).1) (u_free tx kp) kd)⟩
  refine lv_aload_n hx hb dX3_become_14 rfl (lv_at hl 1 rfl) ?_
  refine wd_get (ci := 3) (v := .ref (A 3)) (C := RX3) (T := TX3) (N := 18) hx hb hts (by decide +kernel) hown hK.1 hW hR.1 rfl 4 (by decide) (hts (.fieldLink RX3 19 "CharRowsModel" "rowMany" "[I") (by decide +kernel)) (fun _ h9 => h9) rfl dX3_become_15 ?_
  refine lv_iload hx hb dX3_become_18 (lv_at hl 0 rfl) ?_
  refine lv_iload hx hb dX3_become_20 (lv_at hl 5 rfl) ?_
  refine wd_iast hx hb hK.1 hW hS 0 hR.2.2.2.2.1 rfl (vp_in_nI (by omega) (by omega)) dX3_become_22 (fun H locs hW hS => ?_)
  rw [nI_clamp (by omega)] at hW
  obtain ⟨w_v2, hW, hR⟩ : ∃ w', wd_P D vwCl (wd_A w sg.heap.size) w' H ∧ rW cI m A (fun t => oI (tx t)) (kI kp) (upd (fun r => (rs r).1) (u_free tx kp) kd) (upd (fun r => nI (rs r).2.length) (u_free tx kp) (nI mm)) fI kp.length cd pl XD XP XU XO XB w' := ⟨_, hW, hR.afM (upd (fun r => nI (rs r).2.length) (u_free tx kp) (nI mm))⟩
  refine lv_iconst (v := 0) hx hb dX3_become_23 (by decide) ?_
  refine lv_istore (lv' := [(6, .int 0), (5, .int (nI (u_free tx kp))), (0, .ref m), (1, .int (nI tN)), (2, .int kd), (3, .ref (A 7)), (4, .int (nI mm))]) hx hb dX3_become_24 hl (by decide) rfl (fun ls hl => ?_)
  refine wd_loop1 (fun (k : Nat) (H : Heap) (locs : List Loc) (ls : Array Slot) => (k ≤ mm) ∧ (∃ w', wd_P D vwCl (wd_A w sg.heap.size) w' H ∧ rW cI m A (fun t => oI (tx t)) (kI kp) (upd (fun r => (rs r).1) (u_free tx kp) kd) (upd (fun r => nI (rs r).2.length) (u_free tx kp) (nI mm)) (layN (240 * (u_free tx kp)) XU.1 k fI) kp.length cd pl XD XP XU XO XB w') ∧ va_S (wd_A w sg.heap.size) sg.heap H locs ∧ lv_has ls 7 [(0, .ref m), (1, .int (nI tN)), (2, .int kd), (3, .ref (A 7)), (4, .int (nI mm)), (5, .int (nI (u_free tx kp))), (6, .int (nI k))]) (fun (k : Nat) => mm - k) 0 ⟨(by omega), ⟨_, hW, hR⟩, hS, (lv_sub hl [2, 3, 4, 5, 6, 1, 0] rfl)⟩ (fun k H locs ls hI ih_26 => ?_)
  obtain ⟨hk, ⟨w_l26, hW, hR⟩, hS, hl⟩ := hI
  refine lv_iload hx hb dX3_become_26 (lv_at hl 6 rfl) ?_
  refine lv_iload hx hb dX3_become_28 (lv_at hl 4 rfl) ?_
  refine lv_icmp_ge (tgt := 57) hx hb dX3_become_30 (by decide) (fun c_30 => ?_) (fun c_30 => ?_)
  ·
    have c_30 : mm ≤ k := (nI_leI (by omega) (by omega)).mp (show (nI mm ≤ nI k) from c_30)
    refine lv_aload_n hx hb dX3_become_57 rfl (lv_at hl 0 rfl) ?_
    refine wd_get (ci := 3) (v := .ref (A 0)) (C := RX3) (T := TX3) (N := 18) hx hb hts (by decide +kernel) hown hK.1 hW hR.1 rfl 0 (by decide) (hts (.fieldLink RX3 7 "CharRowsModel" "textRow" "[I") (by decide +kernel)) (fun _ h9 => h9) rfl dX3_become_58 ?_
    refine lv_iload_n hx hb dX3_become_61 rfl (lv_at hl 1 rfl) ?_
    refine lv_iload hx hb dX3_become_62 (lv_at hl 5 rfl) ?_
    refine wd_iast hx hb hK.1 hW hS 0 hR.2.1 rfl (vp_in_nI (by omega) (by omega)) dX3_become_64 (fun H locs hW hS => ?_)
    rw [nI_clamp (by omega)] at hW
    obtain ⟨w_v3, hW, hR⟩ : ∃ w', wd_P D vwCl (wd_A w sg.heap.size) w' H ∧ rW cI m A (upd (fun t => oI (tx t)) tN (nI (u_free tx kp))) (kI kp) (upd (fun r => (rs r).1) (u_free tx kp) kd) (upd (fun r => nI (rs r).2.length) (u_free tx kp) (nI mm)) (layN (240 * (u_free tx kp)) XU.1 k fI) kp.length cd pl XD XP XU XO XB w' := ⟨_, hW, hR.afT (upd (fun t => oI (tx t)) tN (nI (u_free tx kp)))⟩
    refine lv_aload_n hx hb dX3_become_65 rfl (lv_at hl 0 rfl) ?_
    refine lv_iload hx hb dX3_become_66 (lv_at hl 4 rfl) ?_
    refine wd_callVi (As := [.int (nI mm)]) (rest := []) (c2 := 0) (s2 := 0) ⟨hx, hb, hml, hown, hts⟩ (k_X3_yes l D cI cT w_v3 H.size m A (upd (fun t => oI (tx t)) tN (nI (u_free tx kp))) (kI kp) (upd (fun r => (rs r).1) (u_free tx kp) kd) (upd (fun r => nI (rs r).2.length) (u_free tx kp) (nI mm)) (layN (240 * (u_free tx kp)) XU.1 k fI) kp.length cd pl XD XP XU XO XB (nI mm) hR) (cwV 1 hts gX3_become_X3_yes rfl rfl rfl (by decide +kernel) ⟨Nat.le_of_ble_eq_true rfl, Nat.le_of_ble_eq_true rfl⟩) gK_ok hK hW (wd_recv (ci := 3) hK.1 hW rfl hR.1) hS hA rfl hl.1 rfl (Nat.le_of_ble_eq_true rfl) dX3_become_68 ⟨Nat.le_of_ble_eq_true rfl, Nat.le_of_ble_eq_true rfl⟩ rfl rfl (fun r_68 w_68 H locs hp_68 hW hz hS => ?_)
    obtain ⟨q_r, hR⟩ := hp_68
    subst r_68
    refine wd_iret hx hb hr hlocks hW hS dX3_become_71 ?_
    refine ⟨rfl, layN (240 * (u_free tx kp)) XU.1 mm fI, rIt_new hit hf24 hmm, ?_⟩
    rw [upT, upS rs (u_free tx kp) kd (rl (XU.1, mm)), upM rs (u_free tx kp) kd (rl (XU.1, mm)) (rl_len _), show k = mm by omega] at hR
    exact hR
  ·
    have c_30 : ¬ (mm ≤ k) := fun q9 => absurd ((nI_leI (by omega) (by omega)).mpr q9) (show ¬ (nI mm ≤ nI k) from c_30)
    refine lv_aload_n hx hb dX3_become_33 rfl (lv_at hl 0 rfl) ?_
    refine wd_get (ci := 3) (v := .ref (A 4)) (C := RX3) (T := TX3) (N := 18) hx hb hts (by decide +kernel) hown hK.1 hW hR.1 rfl 5 (by decide) (hts (.fieldLink RX3 22 "CharRowsModel" "rowItem" "[I") (by decide +kernel)) (fun _ h9 => h9) rfl dX3_become_34 ?_
    refine lv_sipush (v := 240) hx hb dX3_become_37 (by decide) ?_
    refine lv_iload hx hb dX3_become_40 (lv_at hl 5 rfl) ?_
    refine lv_imul hx hb dX3_become_42 ?_
    refine wd_topE (y := nI (240 * (u_free tx kp))) (pk_mul 240 _) ?_
    refine lv_iload hx hb dX3_become_43 (lv_at hl 6 rfl) ?_
    refine lv_iadd hx hb dX3_become_45 ?_
    refine wd_topE (y := nI (240 * (u_free tx kp) + k)) (nI_add _ _) ?_
    refine lv_aload_n hx hb dX3_become_46 rfl (lv_at hl 3 rfl) ?_
    refine lv_iload hx hb dX3_become_47 (lv_at hl 6 rfl) ?_
    refine wd_iald hx hb hK.1 hW 0 hR.2.2.2.2.2.2.2.2.1 rfl (vp_in_nI (by omega) (by omega)) dX3_become_49 ?_
    refine wd_topE (y := XU.1 k) (by rw [nI_clamp (by omega)]) ?_
    refine wd_iast hx hb hK.1 hW hS 0 hR.2.2.2.2.2.1 rfl (vp_in_nI (by omega) (by omega)) dX3_become_50 (fun H locs hW hS => ?_)
    rw [nI_clamp (by omega)] at hW
    obtain ⟨w_v4, hW, hR⟩ : ∃ w', wd_P D vwCl (wd_A w sg.heap.size) w' H ∧ rW cI m A (fun t => oI (tx t)) (kI kp) (upd (fun r => (rs r).1) (u_free tx kp) kd) (upd (fun r => nI (rs r).2.length) (u_free tx kp) (nI mm)) (upd (layN (240 * (u_free tx kp)) XU.1 k fI) (240 * (u_free tx kp) + k) (XU.1 k)) kp.length cd pl XD XP XU XO XB w' := ⟨_, hW, hR.afI (upd (layN (240 * (u_free tx kp)) XU.1 k fI) (240 * (u_free tx kp) + k) (XU.1 k))⟩
    refine lv_iinc (v := nI (k + 1)) (lv' := [(6, .int (nI (k + 1))), (0, .ref m), (1, .int (nI tN)), (2, .int kd), (3, .ref (A 7)), (4, .int (nI mm)), (5, .int (nI (u_free tx kp)))]) hx hb dX3_become_51 hl (k := 6) rfl (nI_add k 1) (by decide) rfl (fun ls hl => ?_)
    refine lv_goto (tgt := 26) hx hb dX3_become_54 (by decide) ?_
    exact ih_26 (k + 1) H locs ls ⟨(by omega), ⟨_, hW, hR⟩, hS, (lv_sub hl [1, 2, 3, 4, 5, 6, 0] rfl)⟩ (by omega)
set_option maxHeartbeats 4000000 in
set_option maxRecDepth 100000 in
theorem k_X3_become8 (l : Launch) (D : va_G) (cI cT : ClassId) (w : Wd) (sz : Nat) (m : Nat) (A : Nat → Nat) (fI : Nat → Int32) (cd : Int32) (pl : Int32) (XD : Rw) (XP : Rw) (XU : Rw) (XO : Rw) (XB : Rw) (tx : Nat → Option Nat) (kp : List Nat) (rs : Rws) (tN : Nat) (kd : Int32) (mm : Nat) (hR : rW cI m A (fun t => oI (tx t)) (kI kp) (fun r => (rs r).1) (fun r => nI (rs r).2.length) fI kp.length cd pl XD XP XU XO XB w) (htN : tN < 10) (h10 : ∀ t, 10 ≤ t → tx t = none) (hkp : kp.length ≤ 12) (hlv : ∀ t r, tx t = some r → r < 24) (hk24 : ∀ r ∈ kp, r < 24) (hit : rIt rs fI) (hmm : mm ≤ 240) : wd_Mi l D vwCl (gK D cI cT) yX3_become wsX3_become (wd_rm 1 0 0) [.ref m, .int (nI tN), .int kd, .ref (A 8), .int (nI mm)] w sz (fun q w' => q = nI mm ∧ ∃ f', rIt (va_up rs (u_free tx kp) (kd, (rl (XO.1, mm)))) f' ∧ rW cI m A (fun t => oI ((va_up tx tN (some (u_free tx kp))) t)) (kI kp) (fun r => ((va_up rs (u_free tx kp) (kd, (rl (XO.1, mm)))) r).1) (fun r => nI ((va_up rs (u_free tx kp) (kd, (rl (XO.1, mm)))) r).2.length) f' kp.length 0 pl XD XP XU XO XB w') := by
  refine wd_met (cc := cX3_become) (maxL := 7) (ret := (some .int)) (by decide) rfl (Nat.le_of_ble_eq_true rfl) ?_
  intro pg ev sg mi bl mt cde ls C0 hsz hK hW hl
  obtain ⟨hx, hb, hr, hml, hown, hts, hlocks, hnm⟩ := C0
  subst hsz
  have hown : sg.vm.findClass RX3 = some mi.cls := hown
  have hS : va_S (wd_A w sg.heap.size) sg.heap sg.heap [] := va_S.rf
  have hA : ∀ q, sg.heap.size ≤ q → wd_A w sg.heap.size q := fun q h => Or.inr h
  have hl : lv_has ls 7 [(0, .ref m), (1, .int (nI tN)), (2, .int kd), (3, .ref (A 8)), (4, .int (nI mm))] := hl
  have hf24 := (u_free_spec h10 hkp).2
  refine lv_aload_n hx hb dX3_become_0 rfl (lv_at hl 0 rfl) ?_
  refine wd_callVi (As := []) (rest := []) (c2 := 0) (s2 := 0) ⟨hx, hb, hml, hown, hts⟩ (k_X3_freeRow l D cI cT w sg.heap.size m A (fun r => (rs r).1) (fun r => nI (rs r).2.length) fI cd pl XD XP XU XO XB tx kp hR h10 hkp hlv hk24) (cwV 0 hts gX3_become_X3_freeRow rfl rfl rfl (by decide +kernel) ⟨Nat.le_of_ble_eq_true rfl, Nat.le_of_ble_eq_true rfl⟩) gK_ok hK hW (wd_recv (ci := 3) hK.1 hW rfl hR.1) hS hA rfl hl.1 rfl (Nat.le_of_ble_eq_true rfl) dX3_become_1 ⟨Nat.le_of_ble_eq_true rfl, Nat.le_of_ble_eq_true rfl⟩ rfl rfl (fun r_1 w_1 H locs hp_1 hW hz hS => ?_)
  obtain ⟨q_r, q_w⟩ := hp_1
  subst r_1
  subst w_1
  refine lv_istore (lv' := [(5, .int (nI (u_free tx kp))), (0, .ref m), (1, .int (nI tN)), (2, .int kd), (3, .ref (A 8)), (4, .int (nI mm))]) hx hb dX3_become_4 hl (by decide) rfl (fun ls hl => ?_)
  refine lv_aload_n hx hb dX3_become_6 rfl (lv_at hl 1 rfl) ?_
  refine wd_get (ci := 3) (v := .ref (A 2)) (C := RX3) (T := TX3) (N := 18) hx hb hts (by decide +kernel) hown hK.1 hW hR.1 rfl 3 (by decide) (hts (.fieldLink RX3 16 "CharRowsModel" "rowSort" "[I") (by decide +kernel)) (fun _ h9 => h9) rfl dX3_become_7 ?_
  refine lv_iload hx hb dX3_become_10 (lv_at hl 0 rfl) ?_
  refine lv_iload_n hx hb dX3_become_12 rfl (lv_at hl 3 rfl) ?_
  refine wd_iast hx hb hK.1 hW hS 0 hR.2.2.2.1 rfl (vp_in_nI (by omega) (by omega)) dX3_become_13 (fun H locs hW hS => ?_)
  rw [nI_clamp (by omega)] at hW
  obtain ⟨w_v1, hW, hR⟩ : ∃ w', wd_P D vwCl (wd_A w sg.heap.size) w' H ∧ rW cI m A (fun t => oI (tx t)) (kI kp) (upd (fun r => (rs r).1) (u_free tx kp) kd) (fun r => nI (rs r).2.length) fI kp.length cd pl XD XP XU XO XB w' := ⟨_, hW, hR.afS (upd (fun r => (rs r).1) (u_free tx kp) kd)⟩
  refine lv_aload_n hx hb dX3_become_14 rfl (lv_at hl 1 rfl) ?_
  refine wd_get (ci := 3) (v := .ref (A 3)) (C := RX3) (T := TX3) (N := 18) hx hb hts (by decide +kernel) hown hK.1 hW hR.1 rfl 4 (by decide) (hts (.fieldLink RX3 19 "CharRowsModel" "rowMany" "[I") (by decide +kernel)) (fun _ h9 => h9) rfl dX3_become_15 ?_
  refine lv_iload hx hb dX3_become_18 (lv_at hl 0 rfl) ?_
  refine lv_iload hx hb dX3_become_20 (lv_at hl 5 rfl) ?_
  refine wd_iast hx hb hK.1 hW hS 0 hR.2.2.2.2.1 rfl (vp_in_nI (by omega) (by omega)) dX3_become_22 (fun H locs hW hS => ?_)
  rw [nI_clamp (by omega)] at hW
  obtain ⟨w_v2, hW, hR⟩ : ∃ w', wd_P D vwCl (wd_A w sg.heap.size) w' H ∧ rW cI m A (fun t => oI (tx t)) (kI kp) (upd (fun r => (rs r).1) (u_free tx kp) kd) (upd (fun r => nI (rs r).2.length) (u_free tx kp) (nI mm)) fI kp.length cd pl XD XP XU XO XB w' := ⟨_, hW, hR.afM (upd (fun r => nI (rs r).2.length) (u_free tx kp) (nI mm))⟩
  refine lv_iconst (v := 0) hx hb dX3_become_23 (by decide) ?_
  refine lv_istore (lv' := [(6, .int 0), (5, .int (nI (u_free tx kp))), (0, .ref m), (1, .int (nI tN)), (2, .int kd), (3, .ref (A 8)), (4, .int (nI mm))]) hx hb dX3_become_24 hl (by decide) rfl (fun ls hl => ?_)
  refine wd_loop1 (fun (k : Nat) (H : Heap) (locs : List Loc) (ls : Array Slot) => (k ≤ mm) ∧ (∃ w', wd_P D vwCl (wd_A w sg.heap.size) w' H ∧ rW cI m A (fun t => oI (tx t)) (kI kp) (upd (fun r => (rs r).1) (u_free tx kp) kd) (upd (fun r => nI (rs r).2.length) (u_free tx kp) (nI mm)) (layN (240 * (u_free tx kp)) XO.1 k fI) kp.length cd pl XD XP XU XO XB w') ∧ va_S (wd_A w sg.heap.size) sg.heap H locs ∧ lv_has ls 7 [(0, .ref m), (1, .int (nI tN)), (2, .int kd), (3, .ref (A 8)), (4, .int (nI mm)), (5, .int (nI (u_free tx kp))), (6, .int (nI k))]) (fun (k : Nat) => mm - k) 0 ⟨(by omega), ⟨_, hW, hR⟩, hS, (lv_sub hl [2, 3, 4, 5, 6, 1, 0] rfl)⟩ (fun k H locs ls hI ih_26 => ?_)
  obtain ⟨hk, ⟨w_l26, hW, hR⟩, hS, hl⟩ := hI
  refine lv_iload hx hb dX3_become_26 (lv_at hl 6 rfl) ?_
  refine lv_iload hx hb dX3_become_28 (lv_at hl 4 rfl) ?_
  refine lv_icmp_ge (tgt := 57) hx hb dX3_become_30 (by decide) (fun c_30 => ?_) (fun c_30 => ?_)
  ·
    have c_30 : mm ≤ k := (nI_leI (by omega) (by omega)).mp (show (nI mm ≤ nI k) from c_30)
    refine lv_aload_n hx hb dX3_become_57 rfl (lv_at hl 0 rfl) ?_
    refine wd_get (ci := 3) (v := .ref (A 0)) (C := RX3) (T := TX3) (N := 18) hx hb hts (by decide +kernel) hown hK.1 hW hR.1 rfl 0 (by decide) (hts (.fieldLink RX3 7 "CharRowsModel" "textRow" "[I") (by decide +kernel)) (fun _ h9 => h9) rfl dX3_become_58 ?_
    refine lv_iload_n hx hb dX3_become_61 rfl (lv_at hl 1 rfl) ?_
    refine lv_iload hx hb dX3_become_62 (lv_at hl 5 rfl) ?_
    refine wd_iast hx hb hK.1 hW hS 0 hR.2.1 rfl (vp_in_nI (by omega) (by omega)) dX3_become_64 (fun H locs hW hS => ?_)
    rw [nI_clamp (by omega)] at hW
    obtain ⟨w_v3, hW, hR⟩ : ∃ w', wd_P D vwCl (wd_A w sg.heap.size) w' H ∧ rW cI m A (upd (fun t => oI (tx t)) tN (nI (u_free tx kp))) (kI kp) (upd (fun r => (rs r).1) (u_free tx kp) kd) (upd (fun r => nI (rs r).2.length) (u_free tx kp) (nI mm)) (layN (240 * (u_free tx kp)) XO.1 k fI) kp.length cd pl XD XP XU XO XB w' := ⟨_, hW, hR.afT (upd (fun t => oI (tx t)) tN (nI (u_free tx kp)))⟩
    refine lv_aload_n hx hb dX3_become_65 rfl (lv_at hl 0 rfl) ?_
    refine lv_iload hx hb dX3_become_66 (lv_at hl 4 rfl) ?_
    refine wd_callVi (As := [.int (nI mm)]) (rest := []) (c2 := 0) (s2 := 0) ⟨hx, hb, hml, hown, hts⟩ (k_X3_yes l D cI cT w_v3 H.size m A (upd (fun t => oI (tx t)) tN (nI (u_free tx kp))) (kI kp) (upd (fun r => (rs r).1) (u_free tx kp) kd) (upd (fun r => nI (rs r).2.length) (u_free tx kp) (nI mm)) (layN (240 * (u_free tx kp)) XO.1 k fI) kp.length cd pl XD XP XU XO XB (nI mm) hR) (cwV 1 hts gX3_become_X3_yes rfl rfl rfl (by decide +kernel) ⟨Nat.le_of_ble_eq_true rfl, Nat.le_of_ble_eq_true rfl⟩) gK_ok hK hW (wd_recv (ci := 3) hK.1 hW rfl hR.1) hS hA rfl hl.1 rfl (Nat.le_of_ble_eq_true rfl) dX3_become_68 ⟨Nat.le_of_ble_eq_true rfl, Nat.le_of_ble_eq_true rfl⟩ rfl rfl (fun r_68 w_68 H locs hp_68 hW hz hS => ?_)
    obtain ⟨q_r, hR⟩ := hp_68
    subst r_68
    refine wd_iret hx hb hr hlocks hW hS dX3_become_71 ?_
    refine ⟨rfl, layN (240 * (u_free tx kp)) XO.1 mm fI, rIt_new hit hf24 hmm, ?_⟩
    rw [upT, upS rs (u_free tx kp) kd (rl (XO.1, mm)), upM rs (u_free tx kp) kd (rl (XO.1, mm)) (rl_len _), show k = mm by omega] at hR
    exact hR
  ·
    have c_30 : ¬ (mm ≤ k) := fun q9 => absurd ((nI_leI (by omega) (by omega)).mpr q9) (show ¬ (nI mm ≤ nI k) from c_30)
    refine lv_aload_n hx hb dX3_become_33 rfl (lv_at hl 0 rfl) ?_
    refine wd_get (ci := 3) (v := .ref (A 4)) (C := RX3) (T := TX3) (N := 18) hx hb hts (by decide +kernel) hown hK.1 hW hR.1 rfl 5 (by decide) (hts (.fieldLink RX3 22 "CharRowsModel" "rowItem" "[I") (by decide +kernel)) (fun _ h9 => h9) rfl dX3_become_34 ?_
    refine lv_sipush (v := 240) hx hb dX3_become_37 (by decide) ?_
    refine lv_iload hx hb dX3_become_40 (lv_at hl 5 rfl) ?_
    refine lv_imul hx hb dX3_become_42 ?_
    refine wd_topE (y := nI (240 * (u_free tx kp))) (pk_mul 240 _) ?_
    refine lv_iload hx hb dX3_become_43 (lv_at hl 6 rfl) ?_
    refine lv_iadd hx hb dX3_become_45 ?_
    refine wd_topE (y := nI (240 * (u_free tx kp) + k)) (nI_add _ _) ?_
    refine lv_aload_n hx hb dX3_become_46 rfl (lv_at hl 3 rfl) ?_
    refine lv_iload hx hb dX3_become_47 (lv_at hl 6 rfl) ?_
    refine wd_iald hx hb hK.1 hW 0 hR.2.2.2.2.2.2.2.2.2.1 rfl (vp_in_nI (by omega) (by omega)) dX3_become_49 ?_
    refine wd_topE (y := XO.1 k) (by rw [nI_clamp (by omega)]) ?_
    refine wd_iast hx hb hK.1 hW hS 0 hR.2.2.2.2.2.1 rfl (vp_in_nI (by omega) (by omega)) dX3_become_50 (fun H locs hW hS => ?_)
    rw [nI_clamp (by omega)] at hW
    obtain ⟨w_v4, hW, hR⟩ : ∃ w', wd_P D vwCl (wd_A w sg.heap.size) w' H ∧ rW cI m A (fun t => oI (tx t)) (kI kp) (upd (fun r => (rs r).1) (u_free tx kp) kd) (upd (fun r => nI (rs r).2.length) (u_free tx kp) (nI mm)) (upd (layN (240 * (u_free tx kp)) XO.1 k fI) (240 * (u_free tx kp) + k) (XO.1 k)) kp.length cd pl XD XP XU XO XB w' := ⟨_, hW, hR.afI (upd (layN (240 * (u_free tx kp)) XO.1 k fI) (240 * (u_free tx kp) + k) (XO.1 k))⟩
    refine lv_iinc (v := nI (k + 1)) (lv' := [(6, .int (nI (k + 1))), (0, .ref m), (1, .int (nI tN)), (2, .int kd), (3, .ref (A 8)), (4, .int (nI mm)), (5, .int (nI (u_free tx kp)))]) hx hb dX3_become_51 hl (k := 6) rfl (nI_add k 1) (by decide) rfl (fun ls hl => ?_)
    refine lv_goto (tgt := 26) hx hb dX3_become_54 (by decide) ?_
    exact ih_26 (k + 1) H locs ls ⟨(by omega), ⟨_, hW, hR⟩, hS, (lv_sub hl [1, 2, 3, 4, 5, 6, 0] rfl)⟩ (by omega)
set_option maxHeartbeats 4000000 in
set_option maxRecDepth 100000 in
theorem k_X3_become9 (l : Launch) (D : va_G) (cI cT : ClassId) (w : Wd) (sz : Nat) (m : Nat) (A : Nat → Nat) (fI : Nat → Int32) (cd : Int32) (pl : Int32) (XD : Rw) (XP : Rw) (XU : Rw) (XO : Rw) (XB : Rw) (tx : Nat → Option Nat) (kp : List Nat) (rs : Rws) (tN : Nat) (kd : Int32) (mm : Nat) (hR : rW cI m A (fun t => oI (tx t)) (kI kp) (fun r => (rs r).1) (fun r => nI (rs r).2.length) fI kp.length cd pl XD XP XU XO XB w) (htN : tN < 10) (h10 : ∀ t, 10 ≤ t → tx t = none) (hkp : kp.length ≤ 12) (hlv : ∀ t r, tx t = some r → r < 24) (hk24 : ∀ r ∈ kp, r < 24) (hit : rIt rs fI) (hmm : mm ≤ 240) : wd_Mi l D vwCl (gK D cI cT) yX3_become wsX3_become (wd_rm 1 0 0) [.ref m, .int (nI tN), .int kd, .ref (A 9), .int (nI mm)] w sz (fun q w' => q = nI mm ∧ ∃ f', rIt (va_up rs (u_free tx kp) (kd, (rl (XB.1, mm)))) f' ∧ rW cI m A (fun t => oI ((va_up tx tN (some (u_free tx kp))) t)) (kI kp) (fun r => ((va_up rs (u_free tx kp) (kd, (rl (XB.1, mm)))) r).1) (fun r => nI ((va_up rs (u_free tx kp) (kd, (rl (XB.1, mm)))) r).2.length) f' kp.length 0 pl XD XP XU XO XB w') := by
  refine wd_met (cc := cX3_become) (maxL := 7) (ret := (some .int)) (by decide) rfl (Nat.le_of_ble_eq_true rfl) ?_
  intro pg ev sg mi bl mt cde ls C0 hsz hK hW hl
  obtain ⟨hx, hb, hr, hml, hown, hts, hlocks, hnm⟩ := C0
  subst hsz
  have hown : sg.vm.findClass RX3 = some mi.cls := hown
  have hS : va_S (wd_A w sg.heap.size) sg.heap sg.heap [] := va_S.rf
  have hA : ∀ q, sg.heap.size ≤ q → wd_A w sg.heap.size q := fun q h => Or.inr h
  have hl : lv_has ls 7 [(0, .ref m), (1, .int (nI tN)), (2, .int kd), (3, .ref (A 9)), (4, .int (nI mm))] := hl
  have hf24 := (u_free_spec h10 hkp).2
  refine lv_aload_n hx hb dX3_become_0 rfl (lv_at hl 0 rfl) ?_
  refine wd_callVi (As := []) (rest := []) (c2 := 0) (s2 := 0) ⟨hx, hb, hml, hown, hts⟩ (k_X3_freeRow l D cI cT w sg.heap.size m A (fun r => (rs r).1) (fun r => nI (rs r).2.length) fI cd pl XD XP XU XO XB tx kp hR h10 hkp hlv hk24) (cwV 0 hts gX3_become_X3_freeRow rfl rfl rfl (by decide +kernel) ⟨Nat.le_of_ble_eq_true rfl, Nat.le_of_ble_eq_true rfl⟩) gK_ok hK hW (wd_recv (ci := 3) hK.1 hW rfl hR.1) hS hA rfl hl.1 rfl (Nat.le_of_ble_eq_true rfl) dX3_become_1 ⟨Nat.le_of_ble_eq_true rfl, Nat.le_of_ble_eq_true rfl⟩ rfl rfl (fun r_1 w_1 H locs hp_1 hW hz hS => ?_)
  obtain ⟨q_r, q_w⟩ := hp_1
  subst r_1
  subst w_1
  refine lv_istore (lv' := [(5, .int (nI (u_free tx kp))), (0, .ref m), (1, .int (nI tN)), (2, .int kd), (3, .ref (A 9)), (4, .int (nI mm))]) hx hb dX3_become_4 hl (by decide) rfl (fun ls hl => ?_)
  refine lv_aload_n hx hb dX3_become_6 rfl (lv_at hl 1 rfl) ?_
  refine wd_get (ci := 3) (v := .ref (A 2)) (C := RX3) (T := TX3) (N := 18) hx hb hts (by decide +kernel) hown hK.1 hW hR.1 rfl 3 (by decide) (hts (.fieldLink RX3 16 "CharRowsModel" "rowSort" "[I") (by decide +kernel)) (fun _ h9 => h9) rfl dX3_become_7 ?_
  refine lv_iload hx hb dX3_become_10 (lv_at hl 0 rfl) ?_
  refine lv_iload_n hx hb dX3_become_12 rfl (lv_at hl 3 rfl) ?_
  refine wd_iast hx hb hK.1 hW hS 0 hR.2.2.2.1 rfl (vp_in_nI (by omega) (by omega)) dX3_become_13 (fun H locs hW hS => ?_)
  rw [nI_clamp (by omega)] at hW
  obtain ⟨w_v1, hW, hR⟩ : ∃ w', wd_P D vwCl (wd_A w sg.heap.size) w' H ∧ rW cI m A (fun t => oI (tx t)) (kI kp) (upd (fun r => (rs r).1) (u_free tx kp) kd) (fun r => nI (rs r).2.length) fI kp.length cd pl XD XP XU XO XB w' := ⟨_, hW, hR.afS (upd (fun r => (rs r).1) (u_free tx kp) kd)⟩
  refine lv_aload_n hx hb dX3_become_14 rfl (lv_at hl 1 rfl) ?_
  refine wd_get (ci := 3) (v := .ref (A 3)) (C := RX3) (T := TX3) (N := 18) hx hb hts (by decide +kernel) hown hK.1 hW hR.1 rfl 4 (by decide) (hts (.fieldLink RX3 19 "CharRowsModel" "rowMany" "[I") (by decide +kernel)) (fun _ h9 => h9) rfl dX3_become_15 ?_
  refine lv_iload hx hb dX3_become_18 (lv_at hl 0 rfl) ?_
  refine lv_iload hx hb dX3_become_20 (lv_at hl 5 rfl) ?_
  refine wd_iast hx hb hK.1 hW hS 0 hR.2.2.2.2.1 rfl (vp_in_nI (by omega) (by omega)) dX3_become_22 (fun H locs hW hS => ?_)
  rw [nI_clamp (by omega)] at hW
  obtain ⟨w_v2, hW, hR⟩ : ∃ w', wd_P D vwCl (wd_A w sg.heap.size) w' H ∧ rW cI m A (fun t => oI (tx t)) (kI kp) (upd (fun r => (rs r).1) (u_free tx kp) kd) (upd (fun r => nI (rs r).2.length) (u_free tx kp) (nI mm)) fI kp.length cd pl XD XP XU XO XB w' := ⟨_, hW, hR.afM (upd (fun r => nI (rs r).2.length) (u_free tx kp) (nI mm))⟩
  refine lv_iconst (v := 0) hx hb dX3_become_23 (by decide) ?_
  refine lv_istore (lv' := [(6, .int 0), (5, .int (nI (u_free tx kp))), (0, .ref m), (1, .int (nI tN)), (2, .int kd), (3, .ref (A 9)), (4, .int (nI mm))]) hx hb dX3_become_24 hl (by decide) rfl (fun ls hl => ?_)
  refine wd_loop1 (fun (k : Nat) (H : Heap) (locs : List Loc) (ls : Array Slot) => (k ≤ mm) ∧ (∃ w', wd_P D vwCl (wd_A w sg.heap.size) w' H ∧ rW cI m A (fun t => oI (tx t)) (kI kp) (upd (fun r => (rs r).1) (u_free tx kp) kd) (upd (fun r => nI (rs r).2.length) (u_free tx kp) (nI mm)) (layN (240 * (u_free tx kp)) XB.1 k fI) kp.length cd pl XD XP XU XO XB w') ∧ va_S (wd_A w sg.heap.size) sg.heap H locs ∧ lv_has ls 7 [(0, .ref m), (1, .int (nI tN)), (2, .int kd), (3, .ref (A 9)), (4, .int (nI mm)), (5, .int (nI (u_free tx kp))), (6, .int (nI k))]) (fun (k : Nat) => mm - k) 0 ⟨(by omega), ⟨_, hW, hR⟩, hS, (lv_sub hl [2, 3, 4, 5, 6, 1, 0] rfl)⟩ (fun k H locs ls hI ih_26 => ?_)
  obtain ⟨hk, ⟨w_l26, hW, hR⟩, hS, hl⟩ := hI
  refine lv_iload hx hb dX3_become_26 (lv_at hl 6 rfl) ?_
  refine lv_iload hx hb dX3_become_28 (lv_at hl 4 rfl) ?_
  refine lv_icmp_ge (tgt := 57) hx hb dX3_become_30 (by decide) (fun c_30 => ?_) (fun c_30 => ?_)
  ·
    have c_30 : mm ≤ k := (nI_leI (by omega) (by omega)).mp (show (nI mm ≤ nI k) from c_30)
    refine lv_aload_n hx hb dX3_become_57 rfl (lv_at hl 0 rfl) ?_
    refine wd_get (ci := 3) (v := .ref (A 0)) (C := RX3) (T := TX3) (N := 18) hx hb hts (by decide +kernel) hown hK.1 hW hR.1 rfl 0 (by decide) (hts (.fieldLink RX3 7 "CharRowsModel" "textRow" "[I") (by decide +kernel)) (fun _ h9 => h9) rfl dX3_become_58 ?_
    refine lv_iload_n hx hb dX3_become_61 rfl (lv_at hl 1 rfl) ?_
    refine lv_iload hx hb dX3_become_62 (lv_at hl 5 rfl) ?_
    refine wd_iast hx hb hK.1 hW hS 0 hR.2.1 rfl (vp_in_nI (by omega) (by omega)) dX3_become_64 (fun H locs hW hS => ?_)
    rw [nI_clamp (by omega)] at hW
    obtain ⟨w_v3, hW, hR⟩ : ∃ w', wd_P D vwCl (wd_A w sg.heap.size) w' H ∧ rW cI m A (upd (fun t => oI (tx t)) tN (nI (u_free tx kp))) (kI kp) (upd (fun r => (rs r).1) (u_free tx kp) kd) (upd (fun r => nI (rs r).2.length) (u_free tx kp) (nI mm)) (layN (240 * (u_free tx kp)) XB.1 k fI) kp.length cd pl XD XP XU XO XB w' := ⟨_, hW, hR.afT (upd (fun t => oI (tx t)) tN (nI (u_free tx kp)))⟩
    refine lv_aload_n hx hb dX3_become_65 rfl (lv_at hl 0 rfl) ?_
    refine lv_iload hx hb dX3_become_66 (lv_at hl 4 rfl) ?_
    refine wd_callVi (As := [.int (nI mm)]) (rest := []) (c2 := 0) (s2 := 0) ⟨hx, hb, hml, hown, hts⟩ (k_X3_yes l D cI cT w_v3 H.size m A (upd (fun t => oI (tx t)) tN (nI (u_free tx kp))) (kI kp) (upd (fun r => (rs r).1) (u_free tx kp) kd) (upd (fun r => nI (rs r).2.length) (u_free tx kp) (nI mm)) (layN (240 * (u_free tx kp)) XB.1 k fI) kp.length cd pl XD XP XU XO XB (nI mm) hR) (cwV 1 hts gX3_become_X3_yes rfl rfl rfl (by decide +kernel) ⟨Nat.le_of_ble_eq_true rfl, Nat.le_of_ble_eq_true rfl⟩) gK_ok hK hW (wd_recv (ci := 3) hK.1 hW rfl hR.1) hS hA rfl hl.1 rfl (Nat.le_of_ble_eq_true rfl) dX3_become_68 ⟨Nat.le_of_ble_eq_true rfl, Nat.le_of_ble_eq_true rfl⟩ rfl rfl (fun r_68 w_68 H locs hp_68 hW hz hS => ?_)
    obtain ⟨q_r, hR⟩ := hp_68
    subst r_68
    refine wd_iret hx hb hr hlocks hW hS dX3_become_71 ?_
    refine ⟨rfl, layN (240 * (u_free tx kp)) XB.1 mm fI, rIt_new hit hf24 hmm, ?_⟩
    rw [upT, upS rs (u_free tx kp) kd (rl (XB.1, mm)), upM rs (u_free tx kp) kd (rl (XB.1, mm)) (rl_len _), show k = mm by omega] at hR
    exact hR
  ·
    have c_30 : ¬ (mm ≤ k) := fun q9 => absurd ((nI_leI (by omega) (by omega)).mpr q9) (show ¬ (nI mm ≤ nI k) from c_30)
    refine lv_aload_n hx hb dX3_become_33 rfl (lv_at hl 0 rfl) ?_
    refine wd_get (ci := 3) (v := .ref (A 4)) (C := RX3) (T := TX3) (N := 18) hx hb hts (by decide +kernel) hown hK.1 hW hR.1 rfl 5 (by decide) (hts (.fieldLink RX3 22 "CharRowsModel" "rowItem" "[I") (by decide +kernel)) (fun _ h9 => h9) rfl dX3_become_34 ?_
    refine lv_sipush (v := 240) hx hb dX3_become_37 (by decide) ?_
    refine lv_iload hx hb dX3_become_40 (lv_at hl 5 rfl) ?_
    refine lv_imul hx hb dX3_become_42 ?_
    refine wd_topE (y := nI (240 * (u_free tx kp))) (pk_mul 240 _) ?_
    refine lv_iload hx hb dX3_become_43 (lv_at hl 6 rfl) ?_
    refine lv_iadd hx hb dX3_become_45 ?_
    refine wd_topE (y := nI (240 * (u_free tx kp) + k)) (nI_add _ _) ?_
    refine lv_aload_n hx hb dX3_become_46 rfl (lv_at hl 3 rfl) ?_
    refine lv_iload hx hb dX3_become_47 (lv_at hl 6 rfl) ?_
    refine wd_iald hx hb hK.1 hW 0 hR.2.2.2.2.2.2.2.2.2.2.1 rfl (vp_in_nI (by omega) (by omega)) dX3_become_49 ?_
    refine wd_topE (y := XB.1 k) (by rw [nI_clamp (by omega)]) ?_
    refine wd_iast hx hb hK.1 hW hS 0 hR.2.2.2.2.2.1 rfl (vp_in_nI (by omega) (by omega)) dX3_become_50 (fun H locs hW hS => ?_)
    rw [nI_clamp (by omega)] at hW
    obtain ⟨w_v4, hW, hR⟩ : ∃ w', wd_P D vwCl (wd_A w sg.heap.size) w' H ∧ rW cI m A (fun t => oI (tx t)) (kI kp) (upd (fun r => (rs r).1) (u_free tx kp) kd) (upd (fun r => nI (rs r).2.length) (u_free tx kp) (nI mm)) (upd (layN (240 * (u_free tx kp)) XB.1 k fI) (240 * (u_free tx kp) + k) (XB.1 k)) kp.length cd pl XD XP XU XO XB w' := ⟨_, hW, hR.afI (upd (layN (240 * (u_free tx kp)) XB.1 k fI) (240 * (u_free tx kp) + k) (XB.1 k))⟩
    refine lv_iinc (v := nI (k + 1)) (lv' := [(6, .int (nI (k + 1))), (0, .ref m), (1, .int (nI tN)), (2, .int kd), (3, .ref (A 9)), (4, .int (nI mm)), (5, .int (nI (u_free tx kp)))]) hx hb dX3_become_51 hl (k := 6) rfl (nI_add k 1) (by decide) rfl (fun ls hl => ?_)
    refine lv_goto (tgt := 26) hx hb dX3_become_54 (by decide) ?_
    exact ih_26 (k + 1) H locs ls ⟨(by omega), ⟨_, hW, hR⟩, hS, (lv_sub hl [1, 2, 3, 4, 5, 6, 0] rfl)⟩ (by omega)
set_option maxHeartbeats 4000000 in
set_option maxRecDepth 100000 in
theorem k_X3_unitsToPoints (l : Launch) (D : va_G) (cI cT : ClassId) (w : Wd) (sz : Nat) (m : Nat) (A : Nat → Nat) (fT : Nat → Int32) (fK : Nat → Int32) (fS : Nat → Int32) (fM : Nat → Int32) (fI : Nat → Int32) (kc : Nat) (cd : Int32) (pl : Int32) (XD : Rw) (XP : Rw) (XU : Rw) (XO : Rw) (XB : Rw) (hR : rW cI m A fT fK fS fM fI kc cd pl XD XP XU XO XB w) (hu : XU.2 ≤ 240) : wd_Mv l D vwCl (gK D cI cT) yX3_unitsToPoints wsX3_unitsToPoints (wd_rm 2 0 0) [.ref m] w sz (fun w' => ∃ Y : Rw, rl Y = u_pts (rl XU) ∧ rW cI m A fT fK fS fM fI kc cd pl XD Y XU XO XB w') := by
  refine wd_met (cc := cX3_unitsToPoints) (maxL := 3) (ret := none) (by decide) rfl (Nat.le_of_ble_eq_true rfl) ?_
  intro pg ev sg mi bl mt cde ls C0 hsz hK hW hl
  obtain ⟨hx, hb, hr, hml, hown, hts, hlocks, hnm⟩ := C0
  subst hsz
  have hown : sg.vm.findClass RX3 = some mi.cls := hown
  have hS : va_S (wd_A w sg.heap.size) sg.heap sg.heap [] := va_S.rf
  have hA : ∀ q, sg.heap.size ≤ q → wd_A w sg.heap.size q := fun q h => Or.inr h
  have hl : lv_has ls 3 [(0, .ref m)] := hl
  refine lv_aload_n hx hb dX3_unitsToPoints_0 rfl (lv_at hl 0 rfl) ?_
  refine lv_iconst (v := 0) hx hb dX3_unitsToPoints_1 (by decide) ?_
  refine wd_put (ci := 3) (v := .int 0) (ty := .int) (C := RX3) (T := TX3) (N := 18) hx hb hts (by decide +kernel) tyX3 tyX3_ok nmX3 hown hK.1 hW hS hR.1 rfl 11 (by decide) (hts (.fieldLink RX3 74 "CharRowsModel" "pointMany" "I") (by decide +kernel)) (fun _ h9 => h9) rfl (by decide +kernel) rfl rfl (Nat.le_of_ble_eq_true rfl) dX3_unitsToPoints_2 (fun H locs hW hS => ?_)
  obtain ⟨w_v1, hW, hR⟩ : ∃ w', wd_P D vwCl (wd_A w sg.heap.size) w' H ∧ rW cI m A fT fK fS fM fI kc cd pl XD (XP.1, 0) XU XO XB w' := ⟨_, hW, hR.cXP 0⟩
  refine lv_iconst (v := 0) hx hb dX3_unitsToPoints_5 (by decide) ?_
  refine lv_istore_n (lv' := [(1, .int 0), (0, .ref m)]) hx hb dX3_unitsToPoints_6 rfl hl (by decide) rfl (fun ls hl => ?_)
  refine wd_loop2 (fun (k : Nat) (Y : Rw) (H : Heap) (locs : List Loc) (ls : Array Slot) => (k ≤ XU.2) ∧ (Y.2 ≤ k) ∧ (rl Y ++ u_pts ((rl XU).drop k) = u_pts (rl XU)) ∧ (∃ w', wd_P D vwCl (wd_A w sg.heap.size) w' H ∧ rW cI m A fT fK fS fM fI kc cd pl XD Y XU XO XB w') ∧ va_S (wd_A w sg.heap.size) sg.heap H locs ∧ lv_has ls 3 [(0, .ref m), (1, .int (nI k))]) (fun (k : Nat) (Y : Rw) => XU.2 - k) 0 (XP.1, 0) ⟨(by omega), (Nat.le_refl _), (by simp [rl]), ⟨_, hW, hR⟩, hS, (lv_sub hl [1, 0] rfl)⟩ (fun k Y H locs ls hI ih_7 => ?_)
  obtain ⟨hk, hYc, hY, ⟨w_l7, hW, hR⟩, hS, hl⟩ := hI
  refine lv_iload_n hx hb dX3_unitsToPoints_7 rfl (lv_at hl 1 rfl) ?_
  refine lv_aload_n hx hb dX3_unitsToPoints_8 rfl (lv_at hl 0 rfl) ?_
  refine wd_get (ci := 3) (v := .int (nI XU.2)) (C := RX3) (T := TX3) (N := 18) hx hb hts (by decide +kernel) hown hK.1 hW hR.1 rfl 13 (by decide) (hts (.fieldLink RX3 71 "CharRowsModel" "unitMany" "I") (by decide +kernel)) (fun _ h9 => h9) rfl dX3_unitsToPoints_9 ?_
  refine lv_icmp_ge (tgt := 132) hx hb dX3_unitsToPoints_12 (by decide) (fun c_12 => ?_) (fun c_12 => ?_)
  ·
    have c_12 : XU.2 ≤ k := (nI_leI (by omega) (by omega)).mp (show (nI XU.2 ≤ nI k) from c_12)
    refine wd_vret hx hb hr hlocks hW hS dX3_unitsToPoints_132 ?_
    refine ⟨Y, ?_, hR⟩
    rw [← hY, List.drop_eq_nil_of_le (by rw [rl_len]; omega)]
    simp [u_pts]
  ·
    have c_12 : ¬ (XU.2 ≤ k) := fun q9 => absurd ((nI_leI (by omega) (by omega)).mpr q9) (show ¬ (nI XU.2 ≤ nI k) from c_12)
    refine lv_aload_n hx hb dX3_unitsToPoints_15 rfl (lv_at hl 0 rfl) ?_
    refine wd_get (ci := 3) (v := .ref (A 7)) (C := RX3) (T := TX3) (N := 18) hx hb hts (by decide +kernel) hown hK.1 hW hR.1 rfl 12 (by decide) (hts (.fieldLink RX3 35 "CharRowsModel" "units" "[I") (by decide +kernel)) (fun _ h9 => h9) rfl dX3_unitsToPoints_16 ?_
    refine lv_iload_n hx hb dX3_unitsToPoints_19 rfl (lv_at hl 1 rfl) ?_
    refine wd_iald hx hb hK.1 hW 0 hR.2.2.2.2.2.2.2.2.1 rfl (vp_in_nI (by omega) (by omega)) dX3_unitsToPoints_20 ?_
    refine wd_topE (y := XU.1 k) (by rw [nI_clamp (by omega)]) ?_
    refine wd_callSi (As := [.int (XU.1 k)]) (rest := []) (c2 := 0) (s2 := 0) ⟨hx, hb, hml, hown, hts⟩ (k_X3_isHigh l D cI cT w_l7 H.size (XU.1 k) ) (va_cwS 1 hts gX3_unitsToPoints_X3_isHigh rfl rfl rfl (by decide +kernel) ⟨Nat.le_of_ble_eq_true rfl, Nat.le_of_ble_eq_true rfl⟩) gK_ok hK hW hS hA rfl hl.1 rfl (Nat.le_of_ble_eq_true rfl) dX3_unitsToPoints_21 ⟨Nat.le_of_ble_eq_true rfl, Nat.le_of_ble_eq_true rfl⟩ rfl rfl (fun r_21 w_21 H locs hp_21 hW hz hS => ?_)
    obtain ⟨q_r, q_w⟩ := hp_21
    subst r_21
    subst w_21
    refine lv_if_eq (tgt := 55) hx hb dX3_unitsToPoints_24 (by decide) (fun c_24 => ?_) (fun c_24 => ?_)
    ·
      have c_24 := j_b0 c_24
      refine lv_iconst (v := 0) hx hb dX3_unitsToPoints_55 (by decide) ?_
      refine lv_istore_n (lv' := [(2, .int 0), (0, .ref m), (1, .int (nI k))]) hx hb dX3_unitsToPoints_56 rfl hl (by decide) rfl (fun ls hl => ?_)
      refine lv_aload_n hx hb dX3_unitsToPoints_57 rfl (lv_at hl 1 rfl) ?_
      refine wd_get (ci := 3) (v := .ref (A 6)) (C := RX3) (T := TX3) (N := 18) hx hb hts (by decide +kernel) hown hK.1 hW hR.1 rfl 10 (by decide) (hts (.fieldLink RX3 32 "CharRowsModel" "points" "[I") (by decide +kernel)) (fun _ h9 => h9) rfl dX3_unitsToPoints_58 ?_
      refine lv_aload_n hx hb dX3_unitsToPoints_61 rfl (lv_at hl 1 rfl) ?_
      refine wd_get (ci := 3) (v := .int (nI Y.2)) (C := RX3) (T := TX3) (N := 18) hx hb hts (by decide +kernel) hown hK.1 hW hR.1 rfl 11 (by decide) (hts (.fieldLink RX3 74 "CharRowsModel" "pointMany" "I") (by decide +kernel)) (fun _ h9 => h9) rfl dX3_unitsToPoints_62 ?_
      refine lv_iload_n hx hb dX3_unitsToPoints_65 rfl (lv_at hl 0 rfl) ?_
      refine lv_if_eq (tgt := 100) hx hb dX3_unitsToPoints_66 (by decide) (fun c_66 => ?_) (fun c_66 => ?_)
      ·
        refine lv_aload_n hx hb dX3_unitsToPoints_100 rfl (lv_at hl 1 rfl) ?_
        refine wd_get (ci := 3) (v := .ref (A 7)) (C := RX3) (T := TX3) (N := 18) hx hb hts (by decide +kernel) hown hK.1 hW hR.1 rfl 12 (by decide) (hts (.fieldLink RX3 35 "CharRowsModel" "units" "[I") (by decide +kernel)) (fun _ h9 => h9) rfl dX3_unitsToPoints_101 ?_
        refine lv_iload_n hx hb dX3_unitsToPoints_104 rfl (lv_at hl 2 rfl) ?_
        refine wd_iald hx hb hK.1 hW 0 hR.2.2.2.2.2.2.2.2.1 rfl (vp_in_nI (by omega) (by omega)) dX3_unitsToPoints_105 ?_
        refine wd_topE (y := XU.1 k) (by rw [nI_clamp (by omega)]) ?_
        refine wd_iast hx hb hK.1 hW hS 0 hR.2.2.2.2.2.2.2.1 rfl (vp_in_nI (by omega) (by omega)) dX3_unitsToPoints_106 (fun H locs hW hS => ?_)
        rw [nI_clamp (by omega)] at hW
        obtain ⟨w_v2, hW, hR⟩ : ∃ w', wd_P D vwCl (wd_A w sg.heap.size) w' H ∧ rW cI m A fT fK fS fM fI kc cd pl XD ((upd Y.1 Y.2 (XU.1 k)), Y.2) XU XO XB w' := ⟨_, hW, hR.aXP (upd Y.1 Y.2 (XU.1 k))⟩
        refine lv_aload_n hx hb dX3_unitsToPoints_107 rfl (lv_at hl 1 rfl) ?_
        refine lv_dup hx hb dX3_unitsToPoints_108 rfl ?_
        refine wd_get (ci := 3) (v := .int (nI Y.2)) (C := RX3) (T := TX3) (N := 18) hx hb hts (by decide +kernel) hown hK.1 hW hR.1 rfl 11 (by decide) (hts (.fieldLink RX3 74 "CharRowsModel" "pointMany" "I") (by decide +kernel)) (fun _ h9 => h9) rfl dX3_unitsToPoints_109 ?_
        refine lv_iconst (v := 1) hx hb dX3_unitsToPoints_112 (by decide) ?_
        refine lv_iadd hx hb dX3_unitsToPoints_113 ?_
        refine wd_topE (y := nI (Y.2 + 1)) (nI_1 _) ?_
        refine wd_put (ci := 3) (v := .int (nI (Y.2 + 1))) (ty := .int) (C := RX3) (T := TX3) (N := 18) hx hb hts (by decide +kernel) tyX3 tyX3_ok nmX3 hown hK.1 hW hS hR.1 rfl 11 (by decide) (hts (.fieldLink RX3 74 "CharRowsModel" "pointMany" "I") (by decide +kernel)) (fun _ h9 => h9) rfl (by decide +kernel) rfl rfl (Nat.le_of_ble_eq_true rfl) dX3_unitsToPoints_114 (fun H locs hW hS => ?_)
        obtain ⟨w_v3, hW, hR⟩ : ∃ w', wd_P D vwCl (wd_A w sg.heap.size) w' H ∧ rW cI m A fT fK fS fM fI kc cd pl XD ((upd Y.1 Y.2 (XU.1 k)), Y.2 + 1) XU XO XB w' := ⟨_, hW, hR.cXP (Y.2 + 1)⟩
        refine lv_iload_n hx hb dX3_unitsToPoints_117 rfl (lv_at hl 2 rfl) ?_
        refine lv_iload_n hx hb dX3_unitsToPoints_118 rfl (lv_at hl 0 rfl) ?_
        refine lv_if_eq (tgt := 126) hx hb dX3_unitsToPoints_119 (by decide) (fun c_119 => ?_) (fun c_119 => ?_)
        ·
          refine lv_iconst (v := 1) hx hb dX3_unitsToPoints_126 (by decide) ?_
          refine lv_iadd hx hb dX3_unitsToPoints_127 ?_
          refine wd_topE (y := nI (k + 1)) (nI_1 k) ?_
          refine lv_istore_n (lv' := [(1, .int (nI (k + 1))), (2, .int 0), (0, .ref m)]) hx hb dX3_unitsToPoints_128 rfl hl (by decide) rfl (fun ls hl => ?_)
          refine lv_goto (tgt := 7) hx hb dX3_unitsToPoints_129 (by decide) ?_
          have hYa : (((upd Y.1 Y.2 (XU.1 k)), Y.2 + 1)) = r_add 240 (XU.1 k) Y := by rw [r_add, if_pos (by omega)]
          exact ih_7 (k + 1) ((upd Y.1 Y.2 (XU.1 k)), Y.2 + 1) H locs ls ⟨(by omega), (by show Y.2 + 1 ≤ _; omega), (by rw [hYa, rl_add (by omega), List.append_assoc, List.singleton_append, ← u_pts_one (by omega) (fun q => c_24 q.1)]; exact hY), ⟨_, hW, hR⟩, hS, (lv_sub hl [2, 0] rfl)⟩ (by omega)
        ·
          exact absurd rfl c_119
      ·
        exact absurd rfl c_66
    ·
      have c_24 := j_bn c_24
      refine lv_iload_n hx hb dX3_unitsToPoints_27 rfl (lv_at hl 1 rfl) ?_
      refine lv_iconst (v := 1) hx hb dX3_unitsToPoints_28 (by decide) ?_
      refine lv_iadd hx hb dX3_unitsToPoints_29 ?_
      refine wd_topE (y := nI (k + 1)) (nI_1 k) ?_
      refine lv_aload_n hx hb dX3_unitsToPoints_30 rfl (lv_at hl 0 rfl) ?_
      refine wd_get (ci := 3) (v := .int (nI XU.2)) (C := RX3) (T := TX3) (N := 18) hx hb hts (by decide +kernel) hown hK.1 hW hR.1 rfl 13 (by decide) (hts (.fieldLink RX3 71 "CharRowsModel" "unitMany" "I") (by decide +kernel)) (fun _ h9 => h9) rfl dX3_unitsToPoints_31 ?_
      refine lv_icmp_ge (tgt := 55) hx hb dX3_unitsToPoints_34 (by decide) (fun c_34 => ?_) (fun c_34 => ?_)
      ·
        have c_34 : XU.2 ≤ k + 1 := (nI_leI (by omega) (by omega)).mp (show (nI XU.2 ≤ nI (k + 1)) from c_34)
        refine lv_iconst (v := 0) hx hb dX3_unitsToPoints_55 (by decide) ?_
        refine lv_istore_n (lv' := [(2, .int 0), (0, .ref m), (1, .int (nI k))]) hx hb dX3_unitsToPoints_56 rfl hl (by decide) rfl (fun ls hl => ?_)
        refine lv_aload_n hx hb dX3_unitsToPoints_57 rfl (lv_at hl 1 rfl) ?_
        refine wd_get (ci := 3) (v := .ref (A 6)) (C := RX3) (T := TX3) (N := 18) hx hb hts (by decide +kernel) hown hK.1 hW hR.1 rfl 10 (by decide) (hts (.fieldLink RX3 32 "CharRowsModel" "points" "[I") (by decide +kernel)) (fun _ h9 => h9) rfl dX3_unitsToPoints_58 ?_
        refine lv_aload_n hx hb dX3_unitsToPoints_61 rfl (lv_at hl 1 rfl) ?_
        refine wd_get (ci := 3) (v := .int (nI Y.2)) (C := RX3) (T := TX3) (N := 18) hx hb hts (by decide +kernel) hown hK.1 hW hR.1 rfl 11 (by decide) (hts (.fieldLink RX3 74 "CharRowsModel" "pointMany" "I") (by decide +kernel)) (fun _ h9 => h9) rfl dX3_unitsToPoints_62 ?_
        refine lv_iload_n hx hb dX3_unitsToPoints_65 rfl (lv_at hl 0 rfl) ?_
        refine lv_if_eq (tgt := 100) hx hb dX3_unitsToPoints_66 (by decide) (fun c_66 => ?_) (fun c_66 => ?_)
        ·
          refine lv_aload_n hx hb dX3_unitsToPoints_100 rfl (lv_at hl 1 rfl) ?_
          refine wd_get (ci := 3) (v := .ref (A 7)) (C := RX3) (T := TX3) (N := 18) hx hb hts (by decide +kernel) hown hK.1 hW hR.1 rfl 12 (by decide) (hts (.fieldLink RX3 35 "CharRowsModel" "units" "[I") (by decide +kernel)) (fun _ h9 => h9) rfl dX3_unitsToPoints_101 ?_
          refine lv_iload_n hx hb dX3_unitsToPoints_104 rfl (lv_at hl 2 rfl) ?_
          refine wd_iald hx hb hK.1 hW 0 hR.2.2.2.2.2.2.2.2.1 rfl (vp_in_nI (by omega) (by omega)) dX3_unitsToPoints_105 ?_
          refine wd_topE (y := XU.1 k) (by rw [nI_clamp (by omega)]) ?_
          refine wd_iast hx hb hK.1 hW hS 0 hR.2.2.2.2.2.2.2.1 rfl (vp_in_nI (by omega) (by omega)) dX3_unitsToPoints_106 (fun H locs hW hS => ?_)
          rw [nI_clamp (by omega)] at hW
          obtain ⟨w_v4, hW, hR⟩ : ∃ w', wd_P D vwCl (wd_A w sg.heap.size) w' H ∧ rW cI m A fT fK fS fM fI kc cd pl XD ((upd Y.1 Y.2 (XU.1 k)), Y.2) XU XO XB w' := ⟨_, hW, hR.aXP (upd Y.1 Y.2 (XU.1 k))⟩
          refine lv_aload_n hx hb dX3_unitsToPoints_107 rfl (lv_at hl 1 rfl) ?_
          refine lv_dup hx hb dX3_unitsToPoints_108 rfl ?_
          refine wd_get (ci := 3) (v := .int (nI Y.2)) (C := RX3) (T := TX3) (N := 18) hx hb hts (by decide +kernel) hown hK.1 hW hR.1 rfl 11 (by decide) (hts (.fieldLink RX3 74 "CharRowsModel" "pointMany" "I") (by decide +kernel)) (fun _ h9 => h9) rfl dX3_unitsToPoints_109 ?_
          refine lv_iconst (v := 1) hx hb dX3_unitsToPoints_112 (by decide) ?_
          refine lv_iadd hx hb dX3_unitsToPoints_113 ?_
          refine wd_topE (y := nI (Y.2 + 1)) (nI_1 _) ?_
          refine wd_put (ci := 3) (v := .int (nI (Y.2 + 1))) (ty := .int) (C := RX3) (T := TX3) (N := 18) hx hb hts (by decide +kernel) tyX3 tyX3_ok nmX3 hown hK.1 hW hS hR.1 rfl 11 (by decide) (hts (.fieldLink RX3 74 "CharRowsModel" "pointMany" "I") (by decide +kernel)) (fun _ h9 => h9) rfl (by decide +kernel) rfl rfl (Nat.le_of_ble_eq_true rfl) dX3_unitsToPoints_114 (fun H locs hW hS => ?_)
          obtain ⟨w_v5, hW, hR⟩ : ∃ w', wd_P D vwCl (wd_A w sg.heap.size) w' H ∧ rW cI m A fT fK fS fM fI kc cd pl XD ((upd Y.1 Y.2 (XU.1 k)), Y.2 + 1) XU XO XB w' := ⟨_, hW, hR.cXP (Y.2 + 1)⟩
          refine lv_iload_n hx hb dX3_unitsToPoints_117 rfl (lv_at hl 2 rfl) ?_
          refine lv_iload_n hx hb dX3_unitsToPoints_118 rfl (lv_at hl 0 rfl) ?_
          refine lv_if_eq (tgt := 126) hx hb dX3_unitsToPoints_119 (by decide) (fun c_119 => ?_) (fun c_119 => ?_)
          ·
            refine lv_iconst (v := 1) hx hb dX3_unitsToPoints_126 (by decide) ?_
            refine lv_iadd hx hb dX3_unitsToPoints_127 ?_
            refine wd_topE (y := nI (k + 1)) (nI_1 k) ?_
            refine lv_istore_n (lv' := [(1, .int (nI (k + 1))), (2, .int 0), (0, .ref m)]) hx hb dX3_unitsToPoints_128 rfl hl (by decide) rfl (fun ls hl => ?_)
            refine lv_goto (tgt := 7) hx hb dX3_unitsToPoints_129 (by decide) ?_
            have hYa : (((upd Y.1 Y.2 (XU.1 k)), Y.2 + 1)) = r_add 240 (XU.1 k) Y := by rw [r_add, if_pos (by omega)]
            exact ih_7 (k + 1) ((upd Y.1 Y.2 (XU.1 k)), Y.2 + 1) H locs ls ⟨(by omega), (by show Y.2 + 1 ≤ _; omega), (by rw [hYa, rl_add (by omega), List.append_assoc, List.singleton_append, ← u_pts_one (by omega) (fun q => absurd q.2.1 (by omega))]; exact hY), ⟨_, hW, hR⟩, hS, (lv_sub hl [2, 0] rfl)⟩ (by omega)
          ·
            exact absurd rfl c_119
        ·
          exact absurd rfl c_66
      ·
        have c_34 : ¬ (XU.2 ≤ k + 1) := fun q9 => absurd ((nI_leI (by omega) (by omega)).mpr q9) (show ¬ (nI XU.2 ≤ nI (k + 1)) from c_34)
        refine lv_aload_n hx hb dX3_unitsToPoints_37 rfl (lv_at hl 0 rfl) ?_
        refine wd_get (ci := 3) (v := .ref (A 7)) (C := RX3) (T := TX3) (N := 18) hx hb hts (by decide +kernel) hown hK.1 hW hR.1 rfl 12 (by decide) (hts (.fieldLink RX3 35 "CharRowsModel" "units" "[I") (by decide +kernel)) (fun _ h9 => h9) rfl dX3_unitsToPoints_38 ?_
        refine lv_iload_n hx hb dX3_unitsToPoints_41 rfl (lv_at hl 1 rfl) ?_
        refine lv_iconst (v := 1) hx hb dX3_unitsToPoints_42 (by decide) ?_
        refine lv_iadd hx hb dX3_unitsToPoints_43 ?_
        refine wd_topE (y := nI (k + 1)) (nI_1 k) ?_
        refine wd_iald hx hb hK.1 hW 0 hR.2.2.2.2.2.2.2.2.1 rfl (vp_in_nI (by omega) (by omega)) dX3_unitsToPoints_44 ?_
        refine wd_topE (y := XU.1 (k + 1)) (by rw [nI_clamp (by omega)]) ?_
        refine wd_callSi (As := [.int (XU.1 (k + 1))]) (rest := []) (c2 := 0) (s2 := 0) ⟨hx, hb, hml, hown, hts⟩ (k_X3_isLow l D cI cT w_l7 H.size (XU.1 (k + 1)) ) (va_cwS 1 hts gX3_unitsToPoints_X3_isLow rfl rfl rfl (by decide +kernel) ⟨Nat.le_of_ble_eq_true rfl, Nat.le_of_ble_eq_true rfl⟩) gK_ok hK hW hS hA rfl hl.1 rfl (Nat.le_of_ble_eq_true rfl) dX3_unitsToPoints_45 ⟨Nat.le_of_ble_eq_true rfl, Nat.le_of_ble_eq_true rfl⟩ rfl rfl (fun r_45 w_45 H locs hp_45 hW hz hS => ?_)
        obtain ⟨q_r, q_w⟩ := hp_45
        subst r_45
        subst w_45
        refine lv_if_eq (tgt := 55) hx hb dX3_unitsToPoints_48 (by decide) (fun c_48 => ?_) (fun c_48 => ?_)
        ·
          have c_48 := j_b0 c_48
          refine lv_iconst (v := 0) hx hb dX3_unitsToPoints_55 (by decide) ?_
          refine lv_istore_n (lv' := [(2, .int 0), (0, .ref m), (1, .int (nI k))]) hx hb dX3_unitsToPoints_56 rfl hl (by decide) rfl (fun ls hl => ?_)
          refine lv_aload_n hx hb dX3_unitsToPoints_57 rfl (lv_at hl 1 rfl) ?_
          refine wd_get (ci := 3) (v := .ref (A 6)) (C := RX3) (T := TX3) (N := 18) hx hb hts (by decide +kernel) hown hK.1 hW hR.1 rfl 10 (by decide) (hts (.fieldLink RX3 32 "CharRowsModel" "points" "[I") (by decide +kernel)) (fun _ h9 => h9) rfl dX3_unitsToPoints_58 ?_
          refine lv_aload_n hx hb dX3_unitsToPoints_61 rfl (lv_at hl 1 rfl) ?_
          refine wd_get (ci := 3) (v := .int (nI Y.2)) (C := RX3) (T := TX3) (N := 18) hx hb hts (by decide +kernel) hown hK.1 hW hR.1 rfl 11 (by decide) (hts (.fieldLink RX3 74 "CharRowsModel" "pointMany" "I") (by decide +kernel)) (fun _ h9 => h9) rfl dX3_unitsToPoints_62 ?_
          refine lv_iload_n hx hb dX3_unitsToPoints_65 rfl (lv_at hl 0 rfl) ?_
          refine lv_if_eq (tgt := 100) hx hb dX3_unitsToPoints_66 (by decide) (fun c_66 => ?_) (fun c_66 => ?_)
          ·
            refine lv_aload_n hx hb dX3_unitsToPoints_100 rfl (lv_at hl 1 rfl) ?_
            refine wd_get (ci := 3) (v := .ref (A 7)) (C := RX3) (T := TX3) (N := 18) hx hb hts (by decide +kernel) hown hK.1 hW hR.1 rfl 12 (by decide) (hts (.fieldLink RX3 35 "CharRowsModel" "units" "[I") (by decide +kernel)) (fun _ h9 => h9) rfl dX3_unitsToPoints_101 ?_
            refine lv_iload_n hx hb dX3_unitsToPoints_104 rfl (lv_at hl 2 rfl) ?_
            refine wd_iald hx hb hK.1 hW 0 hR.2.2.2.2.2.2.2.2.1 rfl (vp_in_nI (by omega) (by omega)) dX3_unitsToPoints_105 ?_
            refine wd_topE (y := XU.1 k) (by rw [nI_clamp (by omega)]) ?_
            refine wd_iast hx hb hK.1 hW hS 0 hR.2.2.2.2.2.2.2.1 rfl (vp_in_nI (by omega) (by omega)) dX3_unitsToPoints_106 (fun H locs hW hS => ?_)
            rw [nI_clamp (by omega)] at hW
            obtain ⟨w_v6, hW, hR⟩ : ∃ w', wd_P D vwCl (wd_A w sg.heap.size) w' H ∧ rW cI m A fT fK fS fM fI kc cd pl XD ((upd Y.1 Y.2 (XU.1 k)), Y.2) XU XO XB w' := ⟨_, hW, hR.aXP (upd Y.1 Y.2 (XU.1 k))⟩
            refine lv_aload_n hx hb dX3_unitsToPoints_107 rfl (lv_at hl 1 rfl) ?_
            refine lv_dup hx hb dX3_unitsToPoints_108 rfl ?_
            refine wd_get (ci := 3) (v := .int (nI Y.2)) (C := RX3) (T := TX3) (N := 18) hx hb hts (by decide +kernel) hown hK.1 hW hR.1 rfl 11 (by decide) (hts (.fieldLink RX3 74 "CharRowsModel" "pointMany" "I") (by decide +kernel)) (fun _ h9 => h9) rfl dX3_unitsToPoints_109 ?_
            refine lv_iconst (v := 1) hx hb dX3_unitsToPoints_112 (by decide) ?_
            refine lv_iadd hx hb dX3_unitsToPoints_113 ?_
            refine wd_topE (y := nI (Y.2 + 1)) (nI_1 _) ?_
            refine wd_put (ci := 3) (v := .int (nI (Y.2 + 1))) (ty := .int) (C := RX3) (T := TX3) (N := 18) hx hb hts (by decide +kernel) tyX3 tyX3_ok nmX3 hown hK.1 hW hS hR.1 rfl 11 (by decide) (hts (.fieldLink RX3 74 "CharRowsModel" "pointMany" "I") (by decide +kernel)) (fun _ h9 => h9) rfl (by decide +kernel) rfl rfl (Nat.le_of_ble_eq_true rfl) dX3_unitsToPoints_114 (fun H locs hW hS => ?_)
            obtain ⟨w_v7, hW, hR⟩ : ∃ w', wd_P D vwCl (wd_A w sg.heap.size) w' H ∧ rW cI m A fT fK fS fM fI kc cd pl XD ((upd Y.1 Y.2 (XU.1 k)), Y.2 + 1) XU XO XB w' := ⟨_, hW, hR.cXP (Y.2 + 1)⟩
            refine lv_iload_n hx hb dX3_unitsToPoints_117 rfl (lv_at hl 2 rfl) ?_
            refine lv_iload_n hx hb dX3_unitsToPoints_118 rfl (lv_at hl 0 rfl) ?_
            refine lv_if_eq (tgt := 126) hx hb dX3_unitsToPoints_119 (by decide) (fun c_119 => ?_) (fun c_119 => ?_)
            ·
              refine lv_iconst (v := 1) hx hb dX3_unitsToPoints_126 (by decide) ?_
              refine lv_iadd hx hb dX3_unitsToPoints_127 ?_
              refine wd_topE (y := nI (k + 1)) (nI_1 k) ?_
              refine lv_istore_n (lv' := [(1, .int (nI (k + 1))), (2, .int 0), (0, .ref m)]) hx hb dX3_unitsToPoints_128 rfl hl (by decide) rfl (fun ls hl => ?_)
              refine lv_goto (tgt := 7) hx hb dX3_unitsToPoints_129 (by decide) ?_
              have hYa : (((upd Y.1 Y.2 (XU.1 k)), Y.2 + 1)) = r_add 240 (XU.1 k) Y := by rw [r_add, if_pos (by omega)]
              exact ih_7 (k + 1) ((upd Y.1 Y.2 (XU.1 k)), Y.2 + 1) H locs ls ⟨(by omega), (by show Y.2 + 1 ≤ _; omega), (by rw [hYa, rl_add (by omega), List.append_assoc, List.singleton_append, ← u_pts_one (by omega) (fun q => c_48 q.2.2)]; exact hY), ⟨_, hW, hR⟩, hS, (lv_sub hl [2, 0] rfl)⟩ (by omega)
            ·
              exact absurd rfl c_119
          ·
            exact absurd rfl c_66
        ·
          have c_48 := j_bn c_48
          refine lv_iconst (v := 1) hx hb dX3_unitsToPoints_51 (by decide) ?_
          refine lv_goto (tgt := 56) hx hb dX3_unitsToPoints_52 (by decide) ?_
          refine lv_istore_n (lv' := [(2, .int 1), (0, .ref m), (1, .int (nI k))]) hx hb dX3_unitsToPoints_56 rfl hl (by decide) rfl (fun ls hl => ?_)
          refine lv_aload_n hx hb dX3_unitsToPoints_57 rfl (lv_at hl 1 rfl) ?_
          refine wd_get (ci := 3) (v := .ref (A 6)) (C := RX3) (T := TX3) (N := 18) hx hb hts (by decide +kernel) hown hK.1 hW hR.1 rfl 10 (by decide) (hts (.fieldLink RX3 32 "CharRowsModel" "points" "[I") (by decide +kernel)) (fun _ h9 => h9) rfl dX3_unitsToPoints_58 ?_
          refine lv_aload_n hx hb dX3_unitsToPoints_61 rfl (lv_at hl 1 rfl) ?_
          refine wd_get (ci := 3) (v := .int (nI Y.2)) (C := RX3) (T := TX3) (N := 18) hx hb hts (by decide +kernel) hown hK.1 hW hR.1 rfl 11 (by decide) (hts (.fieldLink RX3 74 "CharRowsModel" "pointMany" "I") (by decide +kernel)) (fun _ h9 => h9) rfl dX3_unitsToPoints_62 ?_
          refine lv_iload_n hx hb dX3_unitsToPoints_65 rfl (lv_at hl 0 rfl) ?_
          refine lv_if_eq (tgt := 100) hx hb dX3_unitsToPoints_66 (by decide) (fun c_66 => ?_) (fun c_66 => ?_)
          ·
            exact absurd c_66 (by decide)
          ·
            refine lv_ldc (v := 65536) hx hb hown (hts (.constant RX3 70 65536) (by decide +kernel)) dX3_unitsToPoints_69 ?_
            refine lv_aload_n hx hb dX3_unitsToPoints_71 rfl (lv_at hl 1 rfl) ?_
            refine wd_get (ci := 3) (v := .ref (A 7)) (C := RX3) (T := TX3) (N := 18) hx hb hts (by decide +kernel) hown hK.1 hW hR.1 rfl 12 (by decide) (hts (.fieldLink RX3 35 "CharRowsModel" "units" "[I") (by decide +kernel)) (fun _ h9 => h9) rfl dX3_unitsToPoints_72 ?_
            refine lv_iload_n hx hb dX3_unitsToPoints_75 rfl (lv_at hl 2 rfl) ?_
            refine wd_iald hx hb hK.1 hW 0 hR.2.2.2.2.2.2.2.2.1 rfl (vp_in_nI (by omega) (by omega)) dX3_unitsToPoints_76 ?_
            refine wd_topE (y := XU.1 k) (by rw [nI_clamp (by omega)]) ?_
            refine lv_ldc (v := 55296) hx hb hown (hts (.constant RX3 49 55296) (by decide +kernel)) dX3_unitsToPoints_77 ?_
            refine lv_isub hx hb dX3_unitsToPoints_79 ?_
            refine lv_sipush (v := 1024) hx hb dX3_unitsToPoints_80 (by decide) ?_
            refine lv_imul hx hb dX3_unitsToPoints_83 ?_
            refine lv_iadd hx hb dX3_unitsToPoints_84 ?_
            refine lv_aload_n hx hb dX3_unitsToPoints_85 rfl (lv_at hl 1 rfl) ?_
            refine wd_get (ci := 3) (v := .ref (A 7)) (C := RX3) (T := TX3) (N := 18) hx hb hts (by decide +kernel) hown hK.1 hW hR.1 rfl 12 (by decide) (hts (.fieldLink RX3 35 "CharRowsModel" "units" "[I") (by decide +kernel)) (fun _ h9 => h9) rfl dX3_unitsToPoints_86 ?_
            refine lv_iload_n hx hb dX3_unitsToPoints_89 rfl (lv_at hl 2 rfl) ?_
            refine lv_iconst (v := 1) hx hb dX3_unitsToPoints_90 (by decide) ?_
            refine lv_iadd hx hb dX3_unitsToPoints_91 ?_
            refine wd_topE (y := nI (k + 1)) (nI_1 k) ?_
            refine wd_iald hx hb hK.1 hW 0 hR.2.2.2.2.2.2.2.2.1 rfl (vp_in_nI (by omega) (by omega)) dX3_unitsToPoints_92 ?_
            refine wd_topE (y := XU.1 (k + 1)) (by rw [nI_clamp (by omega)]) ?_
            refine lv_iadd hx hb dX3_unitsToPoints_93 ?_
            refine lv_ldc (v := 56320) hx hb hown (hts (.constant RX3 51 56320) (by decide +kernel)) dX3_unitsToPoints_94 ?_
            refine lv_isub hx hb dX3_unitsToPoints_96 ?_
            refine lv_goto (tgt := 106) hx hb dX3_unitsToPoints_97 (by decide) ?_
            refine wd_iast hx hb hK.1 hW hS 0 hR.2.2.2.2.2.2.2.1 rfl (vp_in_nI (by omega) (by omega)) dX3_unitsToPoints_106 (fun H locs hW hS => ?_)
            rw [nI_clamp (by omega)] at hW
            obtain ⟨w_v8, hW, hR⟩ : ∃ w', wd_P D vwCl (wd_A w sg.heap.size) w' H ∧ rW cI m A fT fK fS fM fI kc cd pl XD ((upd Y.1 Y.2 (((65536 + (((XU.1 k) - 55296) * 1024)) + (XU.1 (k + 1))) - 56320)), Y.2) XU XO XB w' := ⟨_, hW, hR.aXP (upd Y.1 Y.2 (((65536 + (((XU.1 k) - 55296) * 1024)) + (XU.1 (k + 1))) - 56320))⟩
            refine lv_aload_n hx hb dX3_unitsToPoints_107 rfl (lv_at hl 1 rfl) ?_
            refine lv_dup hx hb dX3_unitsToPoints_108 rfl ?_
            refine wd_get (ci := 3) (v := .int (nI Y.2)) (C := RX3) (T := TX3) (N := 18) hx hb hts (by decide +kernel) hown hK.1 hW hR.1 rfl 11 (by decide) (hts (.fieldLink RX3 74 "CharRowsModel" "pointMany" "I") (by decide +kernel)) (fun _ h9 => h9) rfl dX3_unitsToPoints_109 ?_
            refine lv_iconst (v := 1) hx hb dX3_unitsToPoints_112 (by decide) ?_
            refine lv_iadd hx hb dX3_unitsToPoints_113 ?_
            refine wd_topE (y := nI (Y.2 + 1)) (nI_1 _) ?_
            refine wd_put (ci := 3) (v := .int (nI (Y.2 + 1))) (ty := .int) (C := RX3) (T := TX3) (N := 18) hx hb hts (by decide +kernel) tyX3 tyX3_ok nmX3 hown hK.1 hW hS hR.1 rfl 11 (by decide) (hts (.fieldLink RX3 74 "CharRowsModel" "pointMany" "I") (by decide +kernel)) (fun _ h9 => h9) rfl (by decide +kernel) rfl rfl (Nat.le_of_ble_eq_true rfl) dX3_unitsToPoints_114 (fun H locs hW hS => ?_)
            obtain ⟨w_v9, hW, hR⟩ : ∃ w', wd_P D vwCl (wd_A w sg.heap.size) w' H ∧ rW cI m A fT fK fS fM fI kc cd pl XD ((upd Y.1 Y.2 (((65536 + (((XU.1 k) - 55296) * 1024)) + (XU.1 (k + 1))) - 56320)), Y.2 + 1) XU XO XB w' := ⟨_, hW, hR.cXP (Y.2 + 1)⟩
            refine lv_iload_n hx hb dX3_unitsToPoints_117 rfl (lv_at hl 2 rfl) ?_
            refine lv_iload_n hx hb dX3_unitsToPoints_118 rfl (lv_at hl 0 rfl) ?_
            refine lv_if_eq (tgt := 126) hx hb dX3_unitsToPoints_119 (by decide) (fun c_119 => ?_) (fun c_119 => ?_)
            ·
              exact absurd c_119 (by decide)
            ·
              refine lv_iconst (v := 2) hx hb dX3_unitsToPoints_122 (by decide) ?_
              refine lv_goto (tgt := 127) hx hb dX3_unitsToPoints_123 (by decide) ?_
              refine lv_iadd hx hb dX3_unitsToPoints_127 ?_
              refine wd_topE (y := nI (k + 2)) (show nI k + nI 2 = _ from nI_add _ _) ?_
              refine lv_istore_n (lv' := [(1, .int (nI (k + 2))), (2, .int 1), (0, .ref m)]) hx hb dX3_unitsToPoints_128 rfl hl (by decide) rfl (fun ls hl => ?_)
              refine lv_goto (tgt := 7) hx hb dX3_unitsToPoints_129 (by decide) ?_
              have hYa : (((upd Y.1 Y.2 (((65536 + (((XU.1 k) - 55296) * 1024)) + (XU.1 (k + 1))) - 56320)), Y.2 + 1)) = r_add 240 (65536 + (XU.1 k - 55296) * 1024 + XU.1 (k + 1) - 56320) Y := by rw [r_add, if_pos (by omega)]
              exact ih_7 (k + 2) ((upd Y.1 Y.2 (((65536 + (((XU.1 k) - 55296) * 1024)) + (XU.1 (k + 1))) - 56320)), Y.2 + 1) H locs ls ⟨(by omega), (by show Y.2 + 1 ≤ _; omega), (by rw [hYa, rl_add (by omega), List.append_assoc, List.singleton_append, ← u_pts_two c_24 (by omega) c_48]; exact hY), ⟨_, hW, hR⟩, hS, (lv_sub hl [2, 0] rfl)⟩ (by omega)
set_option maxHeartbeats 4000000 in
set_option maxRecDepth 100000 in
theorem k_X3_pointsToUnits (l : Launch) (D : va_G) (cI cT : ClassId) (w : Wd) (sz : Nat) (m : Nat) (A : Nat → Nat) (fT : Nat → Int32) (fK : Nat → Int32) (fS : Nat → Int32) (fM : Nat → Int32) (fI : Nat → Int32) (kc : Nat) (cd : Int32) (pl : Int32) (XD : Rw) (XP : Rw) (XU : Rw) (XO : Rw) (XB : Rw) (hR : rW cI m A fT fK fS fM fI kc cd pl XD XP XU XO XB w) (hp : XP.2 ≤ 240) : wd_Mv l D vwCl (gK D cI cT) yX3_pointsToUnits wsX3_pointsToUnits (wd_rm 1 0 0) [.ref m] w sz (fun w' => rW cI m A fT fK fS fM fI kc cd pl XD XP (itN (fun k Y => r_uni 480 (XP.1 k) Y) XP.2 (XU.1, 0)) XO XB w') := by
  refine wd_met (cc := cX3_pointsToUnits) (maxL := 2) (ret := none) (by decide) rfl (Nat.le_of_ble_eq_true rfl) ?_
  intro pg ev sg mi bl mt cde ls C0 hsz hK hW hl
  obtain ⟨hx, hb, hr, hml, hown, hts, hlocks, hnm⟩ := C0
  subst hsz
  have hown : sg.vm.findClass RX3 = some mi.cls := hown
  have hS : va_S (wd_A w sg.heap.size) sg.heap sg.heap [] := va_S.rf
  have hA : ∀ q, sg.heap.size ≤ q → wd_A w sg.heap.size q := fun q h => Or.inr h
  have hl : lv_has ls 2 [(0, .ref m)] := hl
  refine lv_aload_n hx hb dX3_pointsToUnits_0 rfl (lv_at hl 0 rfl) ?_
  refine lv_iconst (v := 0) hx hb dX3_pointsToUnits_1 (by decide) ?_
  refine wd_put (ci := 3) (v := .int 0) (ty := .int) (C := RX3) (T := TX3) (N := 18) hx hb hts (by decide +kernel) tyX3 tyX3_ok nmX3 hown hK.1 hW hS hR.1 rfl 13 (by decide) (hts (.fieldLink RX3 71 "CharRowsModel" "unitMany" "I") (by decide +kernel)) (fun _ h9 => h9) rfl (by decide +kernel) rfl rfl (Nat.le_of_ble_eq_true rfl) dX3_pointsToUnits_2 (fun H locs hW hS => ?_)
  obtain ⟨w_v1, hW, hR⟩ : ∃ w', wd_P D vwCl (wd_A w sg.heap.size) w' H ∧ rW cI m A fT fK fS fM fI kc cd pl XD XP (XU.1, 0) XO XB w' := ⟨_, hW, hR.cXU 0⟩
  refine lv_iconst (v := 0) hx hb dX3_pointsToUnits_5 (by decide) ?_
  refine lv_istore_n (lv' := [(1, .int 0), (0, .ref m)]) hx hb dX3_pointsToUnits_6 rfl hl (by decide) rfl (fun ls hl => ?_)
  refine wd_loop1 (fun (k : Nat) (H : Heap) (locs : List Loc) (ls : Array Slot) => (k ≤ XP.2) ∧ (∃ w', wd_P D vwCl (wd_A w sg.heap.size) w' H ∧ rW cI m A fT fK fS fM fI kc cd pl XD XP (itN (fun k Y => r_uni 480 (XP.1 k) Y) k (XU.1, 0)) XO XB w') ∧ va_S (wd_A w sg.heap.size) sg.heap H locs ∧ lv_has ls 2 [(0, .ref m), (1, .int (nI k))]) (fun (k : Nat) => XP.2 - k) 0 ⟨(by omega), ⟨_, hW, hR⟩, hS, (lv_sub hl [1, 0] rfl)⟩ (fun k H locs ls hI ih_7 => ?_)
  obtain ⟨hk, ⟨w_l7, hW, hR⟩, hS, hl⟩ := hI
  refine lv_iload_n hx hb dX3_pointsToUnits_7 rfl (lv_at hl 1 rfl) ?_
  refine lv_aload_n hx hb dX3_pointsToUnits_8 rfl (lv_at hl 0 rfl) ?_
  refine wd_get (ci := 3) (v := .int (nI XP.2)) (C := RX3) (T := TX3) (N := 18) hx hb hts (by decide +kernel) hown hK.1 hW hR.1 rfl 11 (by decide) (hts (.fieldLink RX3 74 "CharRowsModel" "pointMany" "I") (by decide +kernel)) (fun _ h9 => h9) rfl dX3_pointsToUnits_9 ?_
  refine lv_icmp_ge (tgt := 31) hx hb dX3_pointsToUnits_12 (by decide) (fun c_12 => ?_) (fun c_12 => ?_)
  ·
    have c_12 : XP.2 ≤ k := (nI_leI (by omega) (by omega)).mp (show (nI XP.2 ≤ nI k) from c_12)
    refine wd_vret hx hb hr hlocks hW hS dX3_pointsToUnits_31 ?_
    rw [show k = XP.2 by omega] at hR
    exact hR
  ·
    have c_12 : ¬ (XP.2 ≤ k) := fun q9 => absurd ((nI_leI (by omega) (by omega)).mpr q9) (show ¬ (nI XP.2 ≤ nI k) from c_12)
    have hc9 := itU_cnt (n := 480) (X := XP) (f := XU.1) (k := k)
    have hu9 := u_units_le (XP.1 k)
    refine lv_aload_n hx hb dX3_pointsToUnits_15 rfl (lv_at hl 0 rfl) ?_
    refine lv_aload_n hx hb dX3_pointsToUnits_16 rfl (lv_at hl 0 rfl) ?_
    refine wd_get (ci := 3) (v := .ref (A 6)) (C := RX3) (T := TX3) (N := 18) hx hb hts (by decide +kernel) hown hK.1 hW hR.1 rfl 10 (by decide) (hts (.fieldLink RX3 32 "CharRowsModel" "points" "[I") (by decide +kernel)) (fun _ h9 => h9) rfl dX3_pointsToUnits_17 ?_
    refine lv_iload_n hx hb dX3_pointsToUnits_20 rfl (lv_at hl 1 rfl) ?_
    refine wd_iald hx hb hK.1 hW 0 hR.2.2.2.2.2.2.2.1 rfl (vp_in_nI (by omega) (by omega)) dX3_pointsToUnits_21 ?_
    refine wd_topE (y := XP.1 k) (by rw [nI_clamp (by omega)]) ?_
    refine wd_callVv (As := [.int (XP.1 k)]) (rest := []) (c2 := 0) (s2 := 0) ⟨hx, hb, hml, hown, hts⟩ (k_X3_addUnits l D cI cT w_l7 H.size m A fT fK fS fM fI kc cd pl XD XP (itN (fun k Y => r_uni 480 (XP.1 k) Y) k (XU.1, 0)) XO XB (XP.1 k) hR (by omega)) (cwV 1 hts gX3_pointsToUnits_X3_addUnits rfl rfl rfl (by decide +kernel) ⟨Nat.le_of_ble_eq_true rfl, Nat.le_of_ble_eq_true rfl⟩) gK_ok hK hW (wd_recv (ci := 3) hK.1 hW rfl hR.1) hS hA rfl hl.1 rfl (Nat.le_of_ble_eq_true rfl) dX3_pointsToUnits_22 ⟨Nat.le_of_ble_eq_true rfl, Nat.le_of_ble_eq_true rfl⟩ rfl rfl (fun w_22 H locs hp_22 hW hz hS => ?_)
    have hR := hp_22
    refine lv_iinc (v := nI (k + 1)) (lv' := [(1, .int (nI (k + 1))), (0, .ref m)]) hx hb dX3_pointsToUnits_25 hl (k := 1) rfl (nI_add k 1) (by decide) rfl (fun ls hl => ?_)
    refine lv_goto (tgt := 7) hx hb dX3_pointsToUnits_28 (by decide) ?_
    exact ih_7 (k + 1) H locs ls ⟨(by omega), ⟨_, hW, hR⟩, hS, (lv_sub hl [1, 0] rfl)⟩ (by omega)
