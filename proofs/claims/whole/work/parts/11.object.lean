set_option maxHeartbeats 4000000 in
set_option maxRecDepth 100000 in
theorem k_X2_done (l : Launch) (D : va_G) (cI cT : ClassId) (w : Wd) (sz : Nat) (o : Nat) (tA : Nat) (kA : Nat) (kc : Int32) (dr : Nat) (wk : Nat) (sw : Nat) (cd : Int32) (pl : Int32) (v : Int32) (ho : w o = some (e_obj tA kA kc dr wk sw cd pl)) : wd_Mi l D vwCl (gK D cI cT) yX2_done wsX2_done (wd_rm 0 0 0) [.ref o, .int v] w sz (fun r w' => r = v ∧ w' = wd_up w o (e_obj tA kA kc dr wk sw 0 pl)) := by
  refine wd_met (cc := cX2_done) (maxL := 2) (ret := (some .int)) (by decide) rfl (Nat.le_of_ble_eq_true rfl) ?_
  intro pg ev sg mi bl mt cde ls C0 hsz hK hW hl
  obtain ⟨hx, hb, hr, hml, hown, hts, hlocks, hnm⟩ := C0
  subst hsz
  have hown : sg.vm.findClass RX2 = some mi.cls := hown
  have hS : va_S (wd_A w sg.heap.size) sg.heap sg.heap [] := va_S.rf
  have hA : ∀ q, sg.heap.size ≤ q → wd_A w sg.heap.size q := fun q h => Or.inr h
  have hl : lv_has ls 2 [(0, .ref o), (1, .int v)] := hl
  refine lv_aload_n hx hb dX2_done_0 rfl (lv_at hl 0 rfl) ?_
  refine lv_iconst (v := 0) hx hb dX2_done_1 (by decide) ?_
  refine wd_put (ci := 2) (v := .int 0) (ty := .int) (C := RX2) (T := TX2) (N := 8) hx hb hts (by decide +kernel) tyX2 tyX2_ok nmX2 hown hK.1 hW hS ho rfl 6 (by decide) (hts (.fieldLink RX2 37 "CharRows" "lastCode" "I") (by decide +kernel)) (fun _ h9 => h9) rfl (by decide +kernel) rfl rfl (Nat.le_of_ble_eq_true rfl) dX2_done_2 (fun H locs hW hS => ?_)
  have f1_o : (wd_up w o (.inr (2, [.ref tA, .ref kA, .int kc, .ref dr, .ref wk, .ref sw, .int 0, .int pl]))) o = some (.inr (2, [.ref tA, .ref kA, .int kc, .ref dr, .ref wk, .ref sw, .int 0, .int pl])) := wd_up_self _ _ _
  refine lv_iload_n hx hb dX2_done_5 rfl (lv_at hl 1 rfl) ?_
  refine wd_iret hx hb hr hlocks hW hS dX2_done_6 ?_
  exact ⟨rfl, rfl⟩
set_option maxHeartbeats 4000000 in
set_option maxRecDepth 100000 in
theorem k_X2_refuse (l : Launch) (D : va_G) (cI cT : ClassId) (w : Wd) (sz : Nat) (o : Nat) (tA : Nat) (kA : Nat) (kc : Int32) (dr : Nat) (wk : Nat) (sw : Nat) (cd : Int32) (pl : Int32) (v : Int32) (ho : w o = some (e_obj tA kA kc dr wk sw cd pl)) : wd_Mi l D vwCl (gK D cI cT) yX2_refuse wsX2_refuse (wd_rm 0 0 0) [.ref o, .int v] w sz (fun r w' => r = 0 ∧ w' = wd_up w o (e_obj tA kA kc dr wk sw v pl)) := by
  refine wd_met (cc := cX2_refuse) (maxL := 2) (ret := (some .int)) (by decide) rfl (Nat.le_of_ble_eq_true rfl) ?_
  intro pg ev sg mi bl mt cde ls C0 hsz hK hW hl
  obtain ⟨hx, hb, hr, hml, hown, hts, hlocks, hnm⟩ := C0
  subst hsz
  have hown : sg.vm.findClass RX2 = some mi.cls := hown
  have hS : va_S (wd_A w sg.heap.size) sg.heap sg.heap [] := va_S.rf
  have hA : ∀ q, sg.heap.size ≤ q → wd_A w sg.heap.size q := fun q h => Or.inr h
  have hl : lv_has ls 2 [(0, .ref o), (1, .int v)] := hl
  refine lv_aload_n hx hb dX2_refuse_0 rfl (lv_at hl 0 rfl) ?_
  refine lv_iload_n hx hb dX2_refuse_1 rfl (lv_at hl 1 rfl) ?_
  refine wd_put (ci := 2) (v := .int v) (ty := .int) (C := RX2) (T := TX2) (N := 8) hx hb hts (by decide +kernel) tyX2 tyX2_ok nmX2 hown hK.1 hW hS ho rfl 6 (by decide) (hts (.fieldLink RX2 37 "CharRows" "lastCode" "I") (by decide +kernel)) (fun _ h9 => h9) rfl (by decide +kernel) rfl rfl (Nat.le_of_ble_eq_true rfl) dX2_refuse_2 (fun H locs hW hS => ?_)
  have f1_o : (wd_up w o (.inr (2, [.ref tA, .ref kA, .int kc, .ref dr, .ref wk, .ref sw, .int v, .int pl]))) o = some (.inr (2, [.ref tA, .ref kA, .int kc, .ref dr, .ref wk, .ref sw, .int v, .int pl])) := wd_up_self _ _ _
  refine lv_iconst (v := 0) hx hb dX2_refuse_5 (by decide) ?_
  refine wd_iret hx hb hr hlocks hW hS dX2_refuse_6 ?_
  exact ⟨rfl, rfl⟩
set_option maxHeartbeats 4000000 in
set_option maxRecDepth 100000 in
theorem k_X2_refuseAt (l : Launch) (D : va_G) (cI cT : ClassId) (w : Wd) (sz : Nat) (o : Nat) (tA : Nat) (kA : Nat) (kc : Int32) (dr : Nat) (wk : Nat) (sw : Nat) (cd : Int32) (pl : Int32) (v : Int32) (ho : w o = some (e_obj tA kA kc dr wk sw cd pl)) : wd_Mi l D vwCl (gK D cI cT) yX2_refuseAt wsX2_refuseAt (wd_rm 1 0 0) [.ref o, .int v] w sz (fun r w' => r = 0 ∧ w' = wd_up w o (e_obj tA kA kc dr wk sw 5 v)) := by
  refine wd_met (cc := cX2_refuseAt) (maxL := 2) (ret := (some .int)) (by decide) rfl (Nat.le_of_ble_eq_true rfl) ?_
  intro pg ev sg mi bl mt cde ls C0 hsz hK hW hl
  obtain ⟨hx, hb, hr, hml, hown, hts, hlocks, hnm⟩ := C0
  subst hsz
  have hown : sg.vm.findClass RX2 = some mi.cls := hown
  have hS : va_S (wd_A w sg.heap.size) sg.heap sg.heap [] := va_S.rf
  have hA : ∀ q, sg.heap.size ≤ q → wd_A w sg.heap.size q := fun q h => Or.inr h
  have hl : lv_has ls 2 [(0, .ref o), (1, .int v)] := hl
  refine lv_aload_n hx hb dX2_refuseAt_0 rfl (lv_at hl 0 rfl) ?_
  refine lv_iload_n hx hb dX2_refuseAt_1 rfl (lv_at hl 1 rfl) ?_
  refine wd_put (ci := 2) (v := .int v) (ty := .int) (C := RX2) (T := TX2) (N := 8) hx hb hts (by decide +kernel) tyX2 tyX2_ok nmX2 hown hK.1 hW hS ho rfl 7 (by decide) (hts (.fieldLink RX2 40 "CharRows" "lastPlace" "I") (by decide +kernel)) (fun _ h9 => h9) rfl (by decide +kernel) rfl rfl (Nat.le_of_ble_eq_true rfl) dX2_refuseAt_2 (fun H locs hW hS => ?_)
  have f1_o : (wd_up w o (.inr (2, [.ref tA, .ref kA, .int kc, .ref dr, .ref wk, .ref sw, .int cd, .int v]))) o = some (.inr (2, [.ref tA, .ref kA, .int kc, .ref dr, .ref wk, .ref sw, .int cd, .int v])) := wd_up_self _ _ _
  refine lv_aload_n hx hb dX2_refuseAt_5 rfl (lv_at hl 0 rfl) ?_
  refine lv_iconst (v := 5) hx hb dX2_refuseAt_6 (by decide) ?_
  refine wd_callVi (As := [.int 5]) (rest := []) (c2 := 0) (s2 := 0) ⟨hx, hb, hml, hown, hts⟩ (k_X2_refuse l D cI cT (wd_up w o (.inr (2, [.ref tA, .ref kA, .int kc, .ref dr, .ref wk, .ref sw, .int cd, .int v]))) H.size o tA kA kc dr wk sw cd v 5 f1_o) (cwV 1 hts gX2_refuseAt_X2_refuse rfl rfl rfl (by decide +kernel) ⟨Nat.le_of_ble_eq_true rfl, Nat.le_of_ble_eq_true rfl⟩) gK_ok hK hW (wd_recv (ci := 2) hK.1 hW rfl f1_o) hS hA rfl hl.1 rfl (Nat.le_of_ble_eq_true rfl) dX2_refuseAt_7 ⟨Nat.le_of_ble_eq_true rfl, Nat.le_of_ble_eq_true rfl⟩ rfl rfl (fun r_7 w_7 H locs hp_7 hW hz hS => ?_)
  obtain ⟨q_r, q_w⟩ := hp_7
  subst r_7
  subst w_7
  have f2_o : (wd_up (wd_up w o (.inr (2, [.ref tA, .ref kA, .int kc, .ref dr, .ref wk, .ref sw, .int cd, .int v]))) o (.inr (2, [.ref tA, .ref kA, .int kc, .ref dr, .ref wk, .ref sw, .int 5, .int v]))) o = some (.inr (2, [.ref tA, .ref kA, .int kc, .ref dr, .ref wk, .ref sw, .int 5, .int v])) := wd_up_self _ _ _
  refine wd_iret hx hb hr hlocks hW hS dX2_refuseAt_10 ?_
  exact ⟨rfl, wd_up_up _ _ _ _⟩
set_option maxHeartbeats 4000000 in
set_option maxRecDepth 100000 in
theorem k_X0_init (l : Launch) (D : va_G) (cI cT : ClassId) (w : Wd) (sz : Nat) (r : Nat) (room : Nat) (h0 : w r = some (.inr (0, [.null, .int 0]))) (hroom : room ≤ 240) : wd_Mv l D vwCl (gK D cI cT) yX0_init wsX0_init (wd_rm 1 1 240) [.ref r, .int (nI room)] w sz (fun w' => ∃ q, w q = none ∧ w' = wd_up (wd_up w q (e_ints cI room (fun _ => 0))) r (e_row q 0)) := by
  refine wd_met (cc := cX0_init) (maxL := 2) (ret := none) (by decide) rfl (Nat.le_of_ble_eq_true rfl) ?_
  intro pg ev sg mi bl mt cde ls C0 hsz hK hW hl
  obtain ⟨hx, hb, hr, hml, hown, hts, hlocks, hnm⟩ := C0
  subst hsz
  have hown : sg.vm.findClass RX0 = some mi.cls := hown
  have hS : va_S (wd_A w sg.heap.size) sg.heap sg.heap [] := va_S.rf
  have hA : ∀ q, sg.heap.size ≤ q → wd_A w sg.heap.size q := fun q h => Or.inr h
  have hl : lv_has ls 2 [(0, .ref r), (1, .int (nI room))] := hl
  refine lv_aload_n hx hb dX0_init_0 rfl (lv_at hl 0 rfl) ?_
  refine W.objInit hx hb hown (hts (.methodLink RX0 3 objectInit) (by decide +kernel)) (hts (.instanceMethod objectInit) (by decide +kernel)) (hts (.code objectInit ⟨#[0xb1]⟩ 1 none) (by decide +kernel)) rfl (by rw [hml]; exact hl.1) rfl dX0_init_1 (Nat.le_of_ble_eq_true rfl) (Nat.le_of_ble_eq_true rfl) ?_
  refine W.eq (g2 := F0 mi 4 ls []) rfl ?_
  refine lv_aload_n hx hb dX0_init_4 rfl (lv_at hl 0 rfl) ?_
  refine lv_iload_n hx hb dX0_init_5 rfl (lv_at hl 1 rfl) ?_
  refine lv_if_ge (tgt := 13) hx hb dX0_init_6 (by decide) (fun c_6 => ?_) (fun c_6 => ?_)
  ·
    have c_6 : 0 ≤ room := (nI_leI (by omega) (by omega)).mp (show (nI 0 ≤ nI room) from c_6)
    refine lv_iload_n hx hb dX0_init_13 rfl (lv_at hl 1 rfl) ?_
    refine wd_newi (N' := room) hx hb (hts (.arrayClass .int) (by decide +kernel)) hK.1 0 rfl hW hS hA (nI_pos (n := room) (by omega)) (nI_clamp (n := room) (by omega)) (by omega) (Nat.le_of_ble_eq_true rfl) (by show 0 + room ≤ 240; omega) dX0_init_14 (fun q14 H hq14 hW hS => ?_)
    refine W.widen (k := 1) (n := 240) (by omega) (by omega) ?_
    have f1_r : (wd_up w q14 (.inl (cI, room, .inl (fun _ => 0)))) r = some (.inr (0, [.null, .int 0])) := (wd_up_ne _ _ (wd_fresh hq14 h0)).trans h0
    have f1_q14 : (wd_up w q14 (.inl (cI, room, .inl (fun _ => 0)))) q14 = some (.inl (cI, room, .inl (fun _ => 0))) := wd_up_self _ _ _
    refine wd_putF (ci := 0) (v := .ref q14) (ty := (.array .int)) (C := RX0) (T := TX0) (N := 2) hx hb hts (by decide +kernel) tyX0 tyX0_ok nmX0 hown hK.1 hW hS f1_r rfl 0 (by decide) (hts (.fieldLink RX0 9 "CharRows$Row" "items" "[I") (by decide +kernel)) (fun _ h9 => h9) rfl hnm rfl (by decide +kernel) rfl rfl (Nat.le_of_ble_eq_true rfl) dX0_init_16 (fun H locs hW hS => ?_)
    have f2_r : (wd_up (wd_up w q14 (.inl (cI, room, .inl (fun _ => 0)))) r (.inr (0, [.ref q14, .int 0]))) r = some (.inr (0, [.ref q14, .int 0])) := wd_up_self _ _ _
    have f2_q14 : (wd_up (wd_up w q14 (.inl (cI, room, .inl (fun _ => 0)))) r (.inr (0, [.ref q14, .int 0]))) q14 = some (.inl (cI, room, .inl (fun _ => 0))) := (wd_up_ne _ _ (wd_ne f1_q14 f1_r (by intro h9; cases h9))).trans f1_q14
    refine lv_aload_n hx hb dX0_init_19 rfl (lv_at hl 0 rfl) ?_
    refine lv_iconst (v := 0) hx hb dX0_init_20 (by decide) ?_
    refine wd_put (ci := 0) (v := .int 0) (ty := .int) (C := RX0) (T := TX0) (N := 2) hx hb hts (by decide +kernel) tyX0 tyX0_ok nmX0 hown hK.1 hW hS f2_r rfl 1 (by decide) (hts (.fieldLink RX0 15 "CharRows$Row" "count" "I") (by decide +kernel)) (fun _ h9 => h9) rfl (by decide +kernel) rfl rfl (Nat.le_of_ble_eq_true rfl) dX0_init_21 (fun H locs hW hS => ?_)
    have f3_r : (wd_up (wd_up (wd_up w q14 (.inl (cI, room, .inl (fun _ => 0)))) r (.inr (0, [.ref q14, .int 0]))) r (.inr (0, [.ref q14, .int 0]))) r = some (.inr (0, [.ref q14, .int 0])) := wd_up_self _ _ _
    have f3_q14 : (wd_up (wd_up (wd_up w q14 (.inl (cI, room, .inl (fun _ => 0)))) r (.inr (0, [.ref q14, .int 0]))) r (.inr (0, [.ref q14, .int 0]))) q14 = some (.inl (cI, room, .inl (fun _ => 0))) := (wd_up_ne _ _ (wd_ne f2_q14 f2_r (by intro h9; cases h9))).trans f2_q14
    refine wd_vret hx hb hr hlocks hW hS dX0_init_24 ?_
    refine ⟨q14, hq14, ?_⟩
    rw [wd_up_up]; rfl
  ·
    exact absurd (nI_pos' (by omega)) c_6
set_option maxHeartbeats 4000000 in
set_option maxRecDepth 100000 in
theorem k_J7_copyOf_59c91 (l : Launch) (D : va_G) (cI cT : ClassId) (w : Wd) (sz : Nat) (a : Nat) (len : Nat) (g : Nat → Int32) (nn : Nat) (ha : w a = some (e_ints cI len g)) (hlen : len ≤ 240) (hnn : nn ≤ len) : wd_Mr l D vwCl (gK D cI cT) yJ7_copyOf_59c91 wsJ7_copyOf_59c91 (wd_rm 1 1 240) [.ref a, .int (nI nn)] w sz (fun u => w u.2 = none ∧ ∃ f', (∀ k, k < nn → f' k = g k) ∧ u.1 = wd_up w u.2 (e_ints cI nn f')) := by
  refine wd_met (cc := cJ7_copyOf_59c91) (maxL := 3) (ret := (some (.array .int))) (by decide) rfl (Nat.le_of_ble_eq_true rfl) ?_
  intro pg ev sg mi bl mt cde ls C0 hsz hK hW hl
  obtain ⟨hx, hb, hr, hml, hown, hts, hlocks, hnm⟩ := C0
  subst hsz
  have hown : sg.vm.findClass RJ7 = some mi.cls := hown
  have hS : va_S (wd_A w sg.heap.size) sg.heap sg.heap [] := va_S.rf
  have hA : ∀ q, sg.heap.size ≤ q → wd_A w sg.heap.size q := fun q h => Or.inr h
  have hl : lv_has ls 3 [(0, .ref a), (1, .int (nI nn))] := hl
  refine lv_iload_n hx hb dJ7_copyOf_59c91_0 rfl (lv_at hl 1 rfl) ?_
  refine lv_aload_n hx hb dJ7_copyOf_59c91_1 rfl (lv_at hl 0 rfl) ?_
  refine wd_alen hx hb hK.1 hW 0 ha rfl dJ7_copyOf_59c91_2 ?_
  refine lv_icmp_ne (tgt := 14) hx hb dJ7_copyOf_59c91_3 (by decide) (fun c_3 => ?_) (fun c_3 => ?_)
  ·
    have c_3 : ¬ (nn = len) := fun q9 => absurd ((nI_eq (by omega) (by omega)).mpr q9) (show ¬ (nI nn = nI len) from c_3)
    refine lv_iload_n hx hb dJ7_copyOf_59c91_14 rfl (lv_at hl 1 rfl) ?_
    refine wd_newi (N' := nn) hx hb (hts (.arrayClass .int) (by decide +kernel)) hK.1 0 rfl hW hS hA (nI_pos (n := nn) (by omega)) (nI_clamp (n := nn) (by omega)) (by omega) (Nat.le_of_ble_eq_true rfl) (by show 0 + nn ≤ 240; omega) dJ7_copyOf_59c91_15 (fun q15 H hq15 hW hS => ?_)
    refine W.widen (k := 1) (n := 240) (by omega) (by omega) ?_
    have f1_a : (wd_up w q15 (.inl (cI, nn, .inl (fun _ => 0)))) a = some (.inl (cI, len, .inl g)) := (wd_up_ne _ _ (wd_fresh hq15 ha)).trans ha
    have f1_q15 : (wd_up w q15 (.inl (cI, nn, .inl (fun _ => 0)))) q15 = some (.inl (cI, nn, .inl (fun _ => 0))) := wd_up_self _ _ _
    refine lv_astore_n (lv' := [(2, .ref q15), (0, .ref a), (1, .int (nI nn))]) hx hb dJ7_copyOf_59c91_17 rfl hl (by decide) rfl (fun ls hl => ?_)
    refine lv_aload_n hx hb dJ7_copyOf_59c91_18 rfl (lv_at hl 1 rfl) ?_
    refine lv_iconst (v := 0) hx hb dJ7_copyOf_59c91_19 (by decide) ?_
    refine lv_aload_n hx hb dJ7_copyOf_59c91_20 rfl (lv_at hl 0 rfl) ?_
    refine lv_iconst (v := 0) hx hb dJ7_copyOf_59c91_21 (by decide) ?_
    refine lv_aload_n hx hb dJ7_copyOf_59c91_22 rfl (lv_at hl 1 rfl) ?_
    refine wd_alen hx hb hK.1 hW 0 f1_a rfl dJ7_copyOf_59c91_23 ?_
    refine lv_iload_n hx hb dJ7_copyOf_59c91_24 rfl (lv_at hl 2 rfl) ?_
    refine va_mmin (rest := [.int 0, .ref q15, .int 0, .ref a]) hx hb (by rw [hml]; exact hl.1.symm) hown (hts (.methodLink RJ7 304 Lib.Math.min.name) (by decide +kernel)) (hts (.static Lib.Math.min.name) (by decide +kernel)) (hts (.initialized "java/lang/Math") (by decide +kernel)) (hts (.code Lib.Math.min.name Lib.Math.min.code 2 (some .int)) (by decide +kernel)) (Nat.le_of_ble_eq_true rfl) (Nat.le_of_ble_eq_true rfl) (Nat.le_of_ble_eq_true rfl) (Nat.le_of_ble_eq_true rfl) dJ7_copyOf_59c91_25 ?_
    refine wd_topE (y := nI (min len nn)) (nI_min (by omega) (by omega)) ?_
    refine wd_copyi (rest := []) hx hb (by rw [hml]; exact hl.1.symm) hown (hts (.methodLink RJ7 150 arraycopyName) (by decide +kernel)) (hts (.native arraycopyName) (by decide +kernel)) (hts (.static arraycopyName) (by decide +kernel)) (hts (.initialized "java/lang/System") (by decide +kernel)) hK.1 hW hS 0 0 f1_a f1_q15 rfl rfl (by decide) (by decide) (nI_pos (by omega)) (by rw [sb_cl0, nI_clamp (by omega)]; omega) (by rw [sb_cl0, nI_clamp (by omega)]; omega) (Nat.le_of_ble_eq_true rfl) (Nat.le_of_ble_eq_true rfl) dJ7_copyOf_59c91_28 (fun H locs hW hS => ?_)
    rw [sb_cl0, nI_clamp (by omega)] at hW
    have f2_a : (wd_up (wd_up w q15 (.inl (cI, nn, .inl (fun _ => 0)))) q15 (.inl (cI, nn, .inl (va_cpy g (fun _ => 0) 0 0 (min len nn))))) a = some (.inl (cI, len, .inl g)) := (wd_up_ne _ _ (wd_fresh hq15 ha)).trans f1_a
    have f2_q15 : (wd_up (wd_up w q15 (.inl (cI, nn, .inl (fun _ => 0)))) q15 (.inl (cI, nn, .inl (va_cpy g (fun _ => 0) 0 0 (min len nn))))) q15 = some (.inl (cI, nn, .inl (va_cpy g (fun _ => 0) 0 0 (min len nn)))) := wd_up_self _ _ _
    refine lv_aload_n hx hb dJ7_copyOf_59c91_31 rfl (lv_at hl 0 rfl) ?_
    refine wd_aret hx hb hr (Or.inr ⟨_, rfl⟩) hlocks hW hS dJ7_copyOf_59c91_32 ?_
    exact ⟨hq15, va_cpy g (fun _ => 0) 0 0 (min len nn), fun k hk => by rw [pk_cpy_in (by omega) (by omega), Nat.sub_zero, Nat.zero_add], wd_up_up _ _ _ _⟩
  ·
    have c_3 : nn = len := (nI_eq (by omega) (by omega)).mp (show (nI nn = nI len) from c_3)
    refine lv_aload_n hx hb dJ7_copyOf_59c91_6 rfl (lv_at hl 0 rfl) ?_
    refine wd_clonei (rest := []) hx hb (by rw [hml]; exact hl.1.symm) hown (hts (.methodLink RJ7 316 ⟨"[I", "clone", "()Ljava/lang/Object;"⟩) (by decide +kernel)) (hts (.sameMethod "[I" "java/lang/Object" "clone" "()Ljava/lang/Object;") (by decide +kernel)) (hts (.native ⟨"java/lang/Object", "clone", "()Ljava/lang/Object;"⟩) (by decide +kernel)) (hts (.instanceMethod ⟨"java/lang/Object", "clone", "()Ljava/lang/Object;"⟩) (by decide +kernel)) (hts (.selects "[I" ⟨"[I", "clone", "()Ljava/lang/Object;"⟩ ⟨"java/lang/Object", "clone", "()Ljava/lang/Object;"⟩) (by decide +kernel)) hK.2.2.2.2 hK.1 hW hS hA 0 ha rfl (Nat.le_of_ble_eq_true rfl) (Nat.le_of_ble_eq_true rfl) (Nat.le_of_ble_eq_true rfl) (by show 0 + len ≤ 240; omega) dJ7_copyOf_59c91_7 (fun q7 H hq7 hW hS => ?_)
    refine W.widen (k := 1) (n := 240) (by omega) (by omega) ?_
    have f3_a : (wd_up w q7 (.inl (cI, len, .inl g))) a = some (.inl (cI, len, .inl g)) := (wd_up_ne _ _ (wd_fresh hq7 ha)).trans ha
    have f3_q7 : (wd_up w q7 (.inl (cI, len, .inl g))) q7 = some (.inl (cI, len, .inl g)) := wd_up_self _ _ _
    refine wd_castI hx hb hown (hts (.classLink RJ7 317 "[I") (by decide +kernel)) hK.1 hW 0 f3_q7 rfl dJ7_copyOf_59c91_10 ?_
    refine wd_aret hx hb hr (Or.inr ⟨_, rfl⟩) hlocks hW hS dJ7_copyOf_59c91_13 ?_
    exact ⟨hq7, g, fun _ _ => rfl, by rw [c_3]⟩
set_option maxHeartbeats 4000000 in
set_option maxRecDepth 100000 in
theorem k_X1_init (l : Launch) (D : va_G) (cI cT : ClassId) (w : Wd) (sz : Nat) (q : Nat) (kd : Int32) (r : Nat) (rI : Nat) (n : Nat) (X : Rw) (h0 : w q = some (.inr (1, [.int 0, .null]))) (hR : rowAt w r rI cI n X) : wd_Mv l D vwCl (gK D cI cT) yX1_init wsX1_init (wd_rm 2 1 240) [.ref q, .int kd, .ref r] w sz (fun w' => ∃ q2 f', w q2 = none ∧ (∀ k, k < X.2 → f' k = X.1 k) ∧ w' = wd_up (wd_up w q2 (e_ints cI X.2 f')) q (e_text kd q2)) := by
  refine wd_met (cc := cX1_init) (maxL := 3) (ret := none) (by decide) rfl (Nat.le_of_ble_eq_true rfl) ?_
  intro pg ev sg mi bl mt cde ls C0 hsz hK hW hl
  obtain ⟨hx, hb, hr, hml, hown, hts, hlocks, hnm⟩ := C0
  subst hsz
  have hown : sg.vm.findClass RX1 = some mi.cls := hown
  have hS : va_S (wd_A w sg.heap.size) sg.heap sg.heap [] := va_S.rf
  have hA : ∀ q, sg.heap.size ≤ q → wd_A w sg.heap.size q := fun q h => Or.inr h
  have hl : lv_has ls 3 [(0, .ref q), (1, .int kd), (2, .ref r)] := hl
  have hX1 := hR.2.2.1
  have hX2 := hR.2.2.2
  refine lv_aload_n hx hb dX1_init_0 rfl (lv_at hl 0 rfl) ?_
  refine W.objInit hx hb hown (hts (.methodLink RX1 3 objectInit) (by decide +kernel)) (hts (.instanceMethod objectInit) (by decide +kernel)) (hts (.code objectInit ⟨#[0xb1]⟩ 1 none) (by decide +kernel)) rfl (by rw [hml]; exact hl.1) rfl dX1_init_1 (Nat.le_of_ble_eq_true rfl) (Nat.le_of_ble_eq_true rfl) ?_
  refine W.eq (g2 := F0 mi 4 ls []) rfl ?_
  refine lv_aload_n hx hb dX1_init_4 rfl (lv_at hl 0 rfl) ?_
  refine lv_iload_n hx hb dX1_init_5 rfl (lv_at hl 1 rfl) ?_
  refine wd_putF (ci := 1) (v := .int kd) (ty := .int) (C := RX1) (T := TX1) (N := 2) hx hb hts (by decide +kernel) tyX1 tyX1_ok nmX1 hown hK.1 hW hS h0 rfl 0 (by decide) (hts (.fieldLink RX1 9 "CharRows$Text" "kindOfItems" "I") (by decide +kernel)) (fun _ h9 => h9) rfl hnm rfl (by decide +kernel) rfl rfl (Nat.le_of_ble_eq_true rfl) dX1_init_6 (fun H locs hW hS => ?_)
  have f1_q : (wd_up w q (.inr (1, [.int kd, .null]))) q = some (.inr (1, [.int kd, .null])) := wd_up_self _ _ _
  have f1_r : (wd_up w q (.inr (1, [.int kd, .null]))) r = some (.inr (0, [.ref rI, .int (nI X.2)])) := (wd_up_ne _ _ (wd_ne hR.1 h0 (by intro h9; cases h9))).trans hR.1
  have f1_rI : (wd_up w q (.inr (1, [.int kd, .null]))) rI = some (.inl (cI, n, .inl X.1)) := (wd_up_ne _ _ (wd_ne hR.2.1 h0 (by intro h9; cases h9))).trans hR.2.1
  refine lv_aload_n hx hb dX1_init_9 rfl (lv_at hl 0 rfl) ?_
  refine lv_aload_n hx hb dX1_init_10 rfl (lv_at hl 2 rfl) ?_
  refine wd_get (ci := 0) (v := .ref rI) (C := RX0) (T := TX0) (N := 2) hx hb hts (by decide +kernel) hown hK.1 hW f1_r rfl 0 (by decide) (hts (.fieldLink RX1 15 "CharRows$Row" "items" "[I") (by decide +kernel)) (fun _ h9 => h9) rfl dX1_init_11 ?_
  refine lv_aload_n hx hb dX1_init_14 rfl (lv_at hl 2 rfl) ?_
  refine wd_get (ci := 0) (v := .int (nI X.2)) (C := RX0) (T := TX0) (N := 2) hx hb hts (by decide +kernel) hown hK.1 hW f1_r rfl 1 (by decide) (hts (.fieldLink RX1 21 "CharRows$Row" "count" "I") (by decide +kernel)) (fun _ h9 => h9) rfl dX1_init_15 ?_
  refine lv_if_ge (tgt := 25) hx hb dX1_init_18 (by decide) (fun c_18 => ?_) (fun c_18 => ?_)
  ·
    have c_18 : 0 ≤ X.2 := (nI_leI (by omega) (by omega)).mp (show (nI 0 ≤ nI X.2) from c_18)
    refine lv_aload_n hx hb dX1_init_25 rfl (lv_at hl 2 rfl) ?_
    refine wd_get (ci := 0) (v := .int (nI X.2)) (C := RX0) (T := TX0) (N := 2) hx hb hts (by decide +kernel) hown hK.1 hW f1_r rfl 1 (by decide) (hts (.fieldLink RX1 21 "CharRows$Row" "count" "I") (by decide +kernel)) (fun _ h9 => h9) rfl dX1_init_26 ?_
    refine wd_callSr (As := [.ref rI, .int (nI X.2)]) (rest := [.ref q]) (c2 := 1) (s2 := 240) ⟨hx, hb, hml, hown, hts⟩ (k_J7_copyOf_59c91 l D cI cT (wd_up w q (.inr (1, [.int kd, .null]))) H.size rI n X.1 X.2 f1_rI (by omega) (by omega)) (va_cwS 2 hts gX1_init_J7_copyOf_59c91 rfl rfl rfl (by decide +kernel) ⟨Nat.le_of_ble_eq_true rfl, Nat.le_of_ble_eq_true rfl⟩) gK_ok hK hW hS hA rfl hl.1 rfl (Nat.le_of_ble_eq_true rfl) dX1_init_29 ⟨Nat.le_of_ble_eq_true rfl, Nat.le_of_ble_eq_true rfl⟩ rfl rfl (fun w_29 r_29 H locs hp_29 hW hz hS => ?_)
    obtain ⟨hq2, f', hf', q_w⟩ := hp_29
    dsimp only at hq2 q_w
    subst w_29
    have f2_q : (wd_up (wd_up w q (.inr (1, [.int kd, .null]))) r_29 (.inl (cI, X.2, .inl f'))) q = some (.inr (1, [.int kd, .null])) := (wd_up_ne _ _ (wd_fresh hq2 f1_q)).trans f1_q
    have f2_r : (wd_up (wd_up w q (.inr (1, [.int kd, .null]))) r_29 (.inl (cI, X.2, .inl f'))) r = some (.inr (0, [.ref rI, .int (nI X.2)])) := (wd_up_ne _ _ (wd_fresh hq2 f1_r)).trans f1_r
    have f2_rI : (wd_up (wd_up w q (.inr (1, [.int kd, .null]))) r_29 (.inl (cI, X.2, .inl f'))) rI = some (.inl (cI, n, .inl X.1)) := (wd_up_ne _ _ (wd_fresh hq2 f1_rI)).trans f1_rI
    have f2_r_29 : (wd_up (wd_up w q (.inr (1, [.int kd, .null]))) r_29 (.inl (cI, X.2, .inl f'))) r_29 = some (.inl (cI, X.2, .inl f')) := wd_up_self _ _ _
    refine wd_putF (ci := 1) (v := .ref r_29) (ty := (.array .int)) (C := RX1) (T := TX1) (N := 2) hx hb hts (by decide +kernel) tyX1 tyX1_ok nmX1 hown hK.1 hW hS f2_q rfl 1 (by decide) (hts (.fieldLink RX1 30 "CharRows$Text" "items" "[I") (by decide +kernel)) (fun _ h9 => h9) rfl hnm rfl (by decide +kernel) rfl rfl (Nat.le_of_ble_eq_true rfl) dX1_init_32 (fun H locs hW hS => ?_)
    have f3_q : (wd_up (wd_up (wd_up w q (.inr (1, [.int kd, .null]))) r_29 (.inl (cI, X.2, .inl f'))) q (.inr (1, [.int kd, .ref r_29]))) q = some (.inr (1, [.int kd, .ref r_29])) := wd_up_self _ _ _
    have f3_r : (wd_up (wd_up (wd_up w q (.inr (1, [.int kd, .null]))) r_29 (.inl (cI, X.2, .inl f'))) q (.inr (1, [.int kd, .ref r_29]))) r = some (.inr (0, [.ref rI, .int (nI X.2)])) := (wd_up_ne _ _ (wd_ne f2_r f2_q (by intro h9; cases h9))).trans f2_r
    have f3_rI : (wd_up (wd_up (wd_up w q (.inr (1, [.int kd, .null]))) r_29 (.inl (cI, X.2, .inl f'))) q (.inr (1, [.int kd, .ref r_29]))) rI = some (.inl (cI, n, .inl X.1)) := (wd_up_ne _ _ (wd_ne f2_rI f2_q (by intro h9; cases h9))).trans f2_rI
    have f3_r_29 : (wd_up (wd_up (wd_up w q (.inr (1, [.int kd, .null]))) r_29 (.inl (cI, X.2, .inl f'))) q (.inr (1, [.int kd, .ref r_29]))) r_29 = some (.inl (cI, X.2, .inl f')) := (wd_up_ne _ _ (wd_ne f2_r_29 f2_q (by intro h9; cases h9))).trans f2_r_29
    refine wd_vret hx hb hr hlocks hW hS dX1_init_35 ?_
    have hn : r_29 ≠ q := fun e9 => by rw [e9, wd_up_self] at hq2; cases hq2
    exact ⟨r_29, f', by rw [wd_up_ne _ _ hn] at hq2; exact hq2, hf', wd_up_3 _ _ _ _ (Ne.symm hn)⟩
  ·
    exact absurd (nI_pos' (by omega)) c_18
set_option maxHeartbeats 4000000 in
set_option maxRecDepth 100000 in
theorem k_X2_setText (l : Launch) (D : va_G) (cI cT : ClassId) (w : Wd) (sz : Nat) (o : Nat) (tA : Nat) (kA : Nat) (kc : Int32) (dr : Nat) (wk : Nat) (sw : Nat) (cd : Int32) (pl : Int32) (tf : Nat → Option Nat) (tt : Nat) (kd : Int32) (r : Nat) (rI : Nat) (n : Nat) (X : Rw) (ho : w o = some (e_obj tA kA kc dr wk sw cd pl)) (htA : w tA = some (e_refs cT 10 tf)) (htt : tt < 10) (hR : rowAt w r rI cI n X) : wd_Mi l D vwCl (gK D cI cT) yX2_setText wsX2_setText (wd_rm 3 2 242) [.ref o, .int (nI tt), .int kd, .ref r] w sz (fun v w' => v = nI X.2 ∧ ∃ q q2 f', w q = none ∧ w q2 = none ∧ q ≠ q2 ∧ (∀ k, k < X.2 → f' k = X.1 k) ∧ w' = wd_up (wd_up (wd_up (wd_up w q2 (e_ints cI X.2 f')) q (e_text kd q2)) tA (e_refs cT 10 (va_up tf tt (some q)))) o (e_obj tA kA kc dr wk sw 0 pl)) := by
  refine wd_met (cc := cX2_setText) (maxL := 4) (ret := (some .int)) (by decide) rfl (Nat.le_of_ble_eq_true rfl) ?_
  intro pg ev sg mi bl mt cde ls C0 hsz hK hW hl
  obtain ⟨hx, hb, hr, hml, hown, hts, hlocks, hnm⟩ := C0
  subst hsz
  have hown : sg.vm.findClass RX2 = some mi.cls := hown
  have hS : va_S (wd_A w sg.heap.size) sg.heap sg.heap [] := va_S.rf
  have hA : ∀ q, sg.heap.size ≤ q → wd_A w sg.heap.size q := fun q h => Or.inr h
  have hl : lv_has ls 4 [(0, .ref o), (1, .int (nI tt)), (2, .int kd), (3, .ref r)] := hl
  have hX1 := hR.2.2.1
  have hX2 := hR.2.2.2
  refine lv_aload_n hx hb dX2_setText_0 rfl (lv_at hl 0 rfl) ?_
  refine wd_get (ci := 2) (v := .ref tA) (C := RX2) (T := TX2) (N := 8) hx hb hts (by decide +kernel) hown hK.1 hW ho rfl 0 (by decide) (hts (.fieldLink RX2 11 "CharRows" "texts" "[LCharRows$Text;") (by decide +kernel)) (fun _ h9 => h9) rfl dX2_setText_1 ?_
  refine lv_iload_n hx hb dX2_setText_4 rfl (lv_at hl 1 rfl) ?_
  refine wd_new (ci := 1) (fs := [.int 0, .null]) (C := RX1) (T := TX1) (N := 2) hx hb hts (by decide +kernel) tyX1 tyX1_ok hown (hts (.classLink RX2 9 RX1) (by decide +kernel)) (hts (.instantiable RX1 2) (by decide +kernel)) (hts (.initialized RX1) (by decide +kernel)) hK.1 hW hS hA rfl (fun j hj => by rcases (show j = 0 ∨ j = 1 by omega) with rfl | rfl <;> rfl) (Nat.le_of_ble_eq_true rfl) (Nat.le_of_ble_eq_true rfl) dX2_setText_5 (fun q5 H hq5 hW hS => ?_)
  refine W.widen (k := 1) (n := 2) (by omega) (by omega) ?_
  have f1_o : (wd_up w q5 (.inr (1, [.int 0, .null]))) o = some (.inr (2, [.ref tA, .ref kA, .int kc, .ref dr, .ref wk, .ref sw, .int cd, .int pl])) := (wd_up_ne _ _ (wd_fresh hq5 ho)).trans ho
  have f1_tA : (wd_up w q5 (.inr (1, [.int 0, .null]))) tA = some (.inl (cT, 10, .inr (.inr (.inr (.inr tf))))) := (wd_up_ne _ _ (wd_fresh hq5 htA)).trans htA
  have f1_r : (wd_up w q5 (.inr (1, [.int 0, .null]))) r = some (.inr (0, [.ref rI, .int (nI X.2)])) := (wd_up_ne _ _ (wd_fresh hq5 hR.1)).trans hR.1
  have f1_rI : (wd_up w q5 (.inr (1, [.int 0, .null]))) rI = some (.inl (cI, n, .inl X.1)) := (wd_up_ne _ _ (wd_fresh hq5 hR.2.1)).trans hR.2.1
  have f1_q5 : (wd_up w q5 (.inr (1, [.int 0, .null]))) q5 = some (.inr (1, [.int 0, .null])) := wd_up_self _ _ _
  refine lv_dup hx hb dX2_setText_8 rfl ?_
  refine lv_iload_n hx hb dX2_setText_9 rfl (lv_at hl 2 rfl) ?_
  refine lv_aload_n hx hb dX2_setText_10 rfl (lv_at hl 3 rfl) ?_
  refine wd_callIv (As := [.int kd, .ref r]) (rest := [.ref q5, .int (nI tt), .ref tA]) (c2 := 2) (s2 := 242) ⟨hx, hb, hml, hown, hts⟩ (k_X1_init l D cI cT (wd_up w q5 (.inr (1, [.int 0, .null]))) H.size q5 kd r rI n X f1_q5 (⟨f1_r, f1_rI, hX1, hX2⟩)) (cwI 2 hts gX2_setText_X1_init rfl rfl rfl (hts (.initialized RX1) (by decide +kernel)) (hts (.methodLink RX2 174 yX1_init) (by decide +kernel)) (hts (.instanceMethod yX1_init) (by decide +kernel)) rfl (by decide +kernel) ⟨Nat.le_of_ble_eq_true rfl, Nat.le_of_ble_eq_true rfl⟩) gK_ok hK hW hS hA rfl hl.1 rfl (Nat.le_of_ble_eq_true rfl) dX2_setText_11 ⟨Nat.le_of_ble_eq_true rfl, Nat.le_of_ble_eq_true rfl⟩ rfl rfl (fun w_11 H locs hp_11 hW hz hS => ?_)
  obtain ⟨q2, f', hq2, hf', q_w⟩ := hp_11
  have hn : q2 ≠ q5 := fun e9 => by rw [e9, wd_up_self] at hq2; cases hq2
  rw [wd_up_3 _ _ _ _ (Ne.symm hn)] at q_w
  rw [wd_up_ne _ _ hn] at hq2
  subst w_11
  have fs_o : (wd_up (wd_up w q2 (e_ints cI X.2 f')) q5 (e_text kd q2)) o = some (.inr (2, [.ref tA, .ref kA, .int kc, .ref dr, .ref wk, .ref sw, .int cd, .int pl])) := (wd_up_ne _ _ (wd_fresh hq5 ho)).trans ((wd_up_ne _ _ (wd_fresh hq2 ho)).trans ho)
  have fs_tA : (wd_up (wd_up w q2 (e_ints cI X.2 f')) q5 (e_text kd q2)) tA = some (.inl (cT, 10, .inr (.inr (.inr (.inr tf))))) := (wd_up_ne _ _ (wd_fresh hq5 htA)).trans ((wd_up_ne _ _ (wd_fresh hq2 htA)).trans htA)
  have fs_r : (wd_up (wd_up w q2 (e_ints cI X.2 f')) q5 (e_text kd q2)) r = some (.inr (0, [.ref rI, .int (nI X.2)])) := (wd_up_ne _ _ (wd_fresh hq5 hR.1)).trans ((wd_up_ne _ _ (wd_fresh hq2 hR.1)).trans hR.1)
  have fs_rI : (wd_up (wd_up w q2 (e_ints cI X.2 f')) q5 (e_text kd q2)) rI = some (.inl (cI, n, .inl X.1)) := (wd_up_ne _ _ (wd_fresh hq5 hR.2.1)).trans ((wd_up_ne _ _ (wd_fresh hq2 hR.2.1)).trans hR.2.1)
  have fs_q : (wd_up (wd_up w q2 (e_ints cI X.2 f')) q5 (e_text kd q2)) q5 = some (e_text kd q2) := wd_up_self _ _ _
  refine wd_astq hx hb hK.1 hW hS 1 1 fs_tA rfl fs_q rfl (vp_in_nI (by omega) (by omega)) dX2_setText_14 (fun H locs hW hS => ?_)
  rw [nI_clamp (by omega)] at hW
  have f2_o : (wd_up (wd_up (wd_up w q2 (e_ints cI X.2 f')) q5 (e_text kd q2)) tA (.inl (cT, 10, .inr (.inr (.inr (.inr (va_up tf tt (some q5)))))))) o = some (.inr (2, [.ref tA, .ref kA, .int kc, .ref dr, .ref wk, .ref sw, .int cd, .int pl])) := (wd_up_ne _ _ (wd_ne fs_o fs_tA (by intro h9; cases h9))).trans fs_o
  have f2_tA : (wd_up (wd_up (wd_up w q2 (e_ints cI X.2 f')) q5 (e_text kd q2)) tA (.inl (cT, 10, .inr (.inr (.inr (.inr (va_up tf tt (some q5)))))))) tA = some (.inl (cT, 10, .inr (.inr (.inr (.inr (va_up tf tt (some q5))))))) := wd_up_self _ _ _
  have f2_r : (wd_up (wd_up (wd_up w q2 (e_ints cI X.2 f')) q5 (e_text kd q2)) tA (.inl (cT, 10, .inr (.inr (.inr (.inr (va_up tf tt (some q5)))))))) r = some (.inr (0, [.ref rI, .int (nI X.2)])) := (wd_up_ne _ _ (wd_ne fs_r fs_tA (by intro h9; cases h9))).trans fs_r
  have f2_rI : (wd_up (wd_up (wd_up w q2 (e_ints cI X.2 f')) q5 (e_text kd q2)) tA (.inl (cT, 10, .inr (.inr (.inr (.inr (va_up tf tt (some q5)))))))) rI = some (.inl (cI, n, .inl X.1)) := (wd_up_ne _ _ (wd_ne fs_rI fs_tA (by intro h9; cases h9))).trans fs_rI
  have f2_q5 : (wd_up (wd_up (wd_up w q2 (e_ints cI X.2 f')) q5 (e_text kd q2)) tA (.inl (cT, 10, .inr (.inr (.inr (.inr (va_up tf tt (some q5)))))))) q5 = some (.inr (1, [.int kd, .ref q2])) := (wd_up_ne _ _ (wd_ne fs_q fs_tA (by intro h9; cases h9))).trans fs_q
  refine lv_aload_n hx hb dX2_setText_15 rfl (lv_at hl 0 rfl) ?_
  refine lv_aload_n hx hb dX2_setText_16 rfl (lv_at hl 3 rfl) ?_
  refine wd_get (ci := 0) (v := .int (nI X.2)) (C := RX0) (T := TX0) (N := 2) hx hb hts (by decide +kernel) hown hK.1 hW f2_r rfl 1 (by decide) (hts (.fieldLink RX2 48 "CharRows$Row" "count" "I") (by decide +kernel)) (fun _ h9 => h9) rfl dX2_setText_17 ?_
  refine wd_callVi (As := [.int (nI X.2)]) (rest := []) (c2 := 2) (s2 := 242) ⟨hx, hb, hml, hown, hts⟩ (k_X2_done l D cI cT (wd_up (wd_up (wd_up w q2 (e_ints cI X.2 f')) q5 (e_text kd q2)) tA (.inl (cT, 10, .inr (.inr (.inr (.inr (va_up tf tt (some q5)))))))) H.size o tA kA kc dr wk sw cd pl (nI X.2) f2_o) (cwV 1 hts gX2_setText_X2_done rfl rfl rfl (by decide +kernel) ⟨Nat.le_of_ble_eq_true rfl, Nat.le_of_ble_eq_true rfl⟩) gK_ok hK hW (wd_recv (ci := 2) hK.1 hW rfl f2_o) hS hA rfl hl.1 rfl (Nat.le_of_ble_eq_true rfl) dX2_setText_20 ⟨Nat.le_of_ble_eq_true rfl, Nat.le_of_ble_eq_true rfl⟩ rfl rfl (fun r_20 w_20 H locs hp_20 hW hz hS => ?_)
  obtain ⟨q_r, q_w⟩ := hp_20
  subst r_20
  subst w_20
  have f3_o : (wd_up (wd_up (wd_up (wd_up w q2 (e_ints cI X.2 f')) q5 (e_text kd q2)) tA (.inl (cT, 10, .inr (.inr (.inr (.inr (va_up tf tt (some q5)))))))) o (.inr (2, [.ref tA, .ref kA, .int kc, .ref dr, .ref wk, .ref sw, .int 0, .int pl]))) o = some (.inr (2, [.ref tA, .ref kA, .int kc, .ref dr, .ref wk, .ref sw, .int 0, .int pl])) := wd_up_self _ _ _
  have f3_tA : (wd_up (wd_up (wd_up (wd_up w q2 (e_ints cI X.2 f')) q5 (e_text kd q2)) tA (.inl (cT, 10, .inr (.inr (.inr (.inr (va_up tf tt (some q5)))))))) o (.inr (2, [.ref tA, .ref kA, .int kc, .ref dr, .ref wk, .ref sw, .int 0, .int pl]))) tA = some (.inl (cT, 10, .inr (.inr (.inr (.inr (va_up tf tt (some q5))))))) := (wd_up_ne _ _ (wd_ne f2_tA f2_o (by intro h9; cases h9))).trans f2_tA
  have f3_r : (wd_up (wd_up (wd_up (wd_up w q2 (e_ints cI X.2 f')) q5 (e_text kd q2)) tA (.inl (cT, 10, .inr (.inr (.inr (.inr (va_up tf tt (some q5)))))))) o (.inr (2, [.ref tA, .ref kA, .int kc, .ref dr, .ref wk, .ref sw, .int 0, .int pl]))) r = some (.inr (0, [.ref rI, .int (nI X.2)])) := (wd_up_ne _ _ (wd_ne f2_r f2_o (by intro h9; cases h9))).trans f2_r
  have f3_rI : (wd_up (wd_up (wd_up (wd_up w q2 (e_ints cI X.2 f')) q5 (e_text kd q2)) tA (.inl (cT, 10, .inr (.inr (.inr (.inr (va_up tf tt (some q5)))))))) o (.inr (2, [.ref tA, .ref kA, .int kc, .ref dr, .ref wk, .ref sw, .int 0, .int pl]))) rI = some (.inl (cI, n, .inl X.1)) := (wd_up_ne _ _ (wd_ne f2_rI f2_o (by intro h9; cases h9))).trans f2_rI
  have f3_q5 : (wd_up (wd_up (wd_up (wd_up w q2 (e_ints cI X.2 f')) q5 (e_text kd q2)) tA (.inl (cT, 10, .inr (.inr (.inr (.inr (va_up tf tt (some q5)))))))) o (.inr (2, [.ref tA, .ref kA, .int kc, .ref dr, .ref wk, .ref sw, .int 0, .int pl]))) q5 = some (.inr (1, [.int kd, .ref q2])) := (wd_up_ne _ _ (wd_ne f2_q5 f2_o (by intro h9; cases h9))).trans f2_q5
  refine wd_iret hx hb hr hlocks hW hS dX2_setText_23 ?_
  exact ⟨rfl, q5, q2, f', hq5, hq2, Ne.symm hn, hf', rfl⟩
