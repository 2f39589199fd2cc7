set_option maxHeartbeats 4000000 in
set_option maxRecDepth 100000 in
theorem lw_c_turnInto {p : Program} {l : Launch} {e : Env} {s : State} {m : MethodId} {below : List Frame} {meth : Method} {c : Code} {b L : Nat} {xs : Nat → Int32} {H : Heap} {locs : List Loc} {cells slots : Nat} {Q : State → Prop} {ls : Array Slot} {D : va_G} {cI cT : ClassId} {o mm i : Nat} {S : Sg} {wC wR : Wd} (hL : L ≤ 3072) (C0 : lw_At p s m meth c b L xs) (hK : gK D cI cT s) (hJ : lw_J D cI cT s o mm S wC wR H locs) (hi : i + 6 ≤ L) (hc : cells + 2 ≤ 600000) (hs : slots + 242 ≤ 7302250) (hl : lv_has ls 4 [(0, .ref b), (1, .ref o), (2, .ref mm), (3, .int (nI i))])
    (kk : ∀ (S : Sg) (wC wR : Wd) (H : Heap) (locs : List Loc), lw_J D cI cT s o mm S wC wR H locs → W p l e room_1 s m #[Value.ref b] below meth c H locs (cells + 2) (slots + 242) Q (F0 m 1054 ls [])) : W p l e room_1 s m #[Value.ref b] below meth c H locs cells slots Q (F0 m 512 ls []) := by
  obtain ⟨hx, hb, hr, hml, hown, hts0, hX, hbl, hlocks, hgv⟩ := id C0
  have hown : s.vm.findClass RL = some m.cls := hown
  have hts : ∀ w ∈ wsL_law, w.before #[Value.ref b] s = true := fun w h => hts0 w (wsL_law_in w h)
  have hA : ∀ q, s.heap.size ≤ q → lw_A s q := fun _ h => h
  obtain ⟨cd, pl, df, tx, kp, rs⟩ := S
  obtain ⟨hwf, hIC, hIR, hWC, hWR, hd, hS⟩ := hJ
  obtain ⟨fC, hoC⟩ := hIC.recv
  obtain ⟨fR, hoR⟩ := hIR.recv
  refine lv_aload_n hx hb dL_law_512 rfl (lv_at hl 1 rfl) ?_
  refine lw_ld (j := 1) C0 hS hl hL (by omega) rfl dL_law_513 dL_law_514 dL_law_515 dL_law_516 dL_law_517 ?_
  refine lw_ld (j := 2) C0 hS hl hL (by omega) rfl dL_law_518 dL_law_519 dL_law_520 dL_law_521 dL_law_522 ?_
  refine lw_ld (j := 3) C0 hS hl hL (by omega) rfl dL_law_523 dL_law_524 dL_law_525 dL_law_526 dL_law_527 ?_
  refine wd_callVi2 (As := [.int (xs (i + 1)), .int (xs (i + 2)), .int (xs (i + 3))]) (rest := []) (c2 := cells + 2) (s2 := slots + 242) ⟨hx, hb, hml, hown, hts⟩ (k_X2_turnInto l D cI cT wC _ o cd pl df tx kp rs (xs (i + 1)) (xs (i + 2)) (xs (i + 3)) hwf hIC) (cwV 3 hts gL_law_X2_turnInto rfl rfl rfl (by decide +kernel) ⟨Nat.le_of_ble_eq_true rfl, Nat.le_of_ble_eq_true rfl⟩) gK_ok hK hWC (wd_recv (ci := 2) hK.1 hWC rfl hoC) hS hA rfl hl.1 rfl (Nat.le_of_ble_eq_true rfl) dL_law_528 ⟨by show cells + 2 ≤ 600000; omega, by show slots + 242 ≤ 7302250; omega⟩ rfl rfl hWR hd (fun r1 wC1 H locs hp1 hWC hWR hd hS => ?_)
  refine lv_aload_n hx hb dL_law_531 rfl (lv_at hl 2 rfl) ?_
  refine lw_ld (j := 1) C0 hS hl hL (by omega) rfl dL_law_532 dL_law_533 dL_law_534 dL_law_535 dL_law_536 ?_
  refine lw_ld (j := 2) C0 hS hl hL (by omega) rfl dL_law_537 dL_law_538 dL_law_539 dL_law_540 dL_law_541 ?_
  refine lw_ld (j := 3) C0 hS hl hL (by omega) rfl dL_law_542 dL_law_543 dL_law_544 dL_law_545 dL_law_546 ?_
  refine wd_callVi2 (As := [.int (xs (i + 1)), .int (xs (i + 2)), .int (xs (i + 3))]) (rest := [.int r1]) (c2 := (cells + 2)) (s2 := (slots + 242)) ⟨hx, hb, hml, hown, hts⟩ (k_X3_turnInto l D cI cT wR _ mm cd pl df tx kp rs (xs (i + 1)) (xs (i + 2)) (xs (i + 3)) hwf hIR) (cwV 3 hts gL_law_X3_turnInto rfl rfl rfl (by decide +kernel) ⟨Nat.le_of_ble_eq_true rfl, Nat.le_of_ble_eq_true rfl⟩) gK_ok hK hWR (wd_recv (ci := 3) hK.1 hWR rfl hoR) hS hA rfl hl.1 rfl (Nat.le_of_ble_eq_true rfl) dL_law_547 ⟨by show (cells + 2) + 0 ≤ 600000; omega, by show (slots + 242) + 0 ≤ 7302250; omega⟩ rfl rfl hWC (wd_sep hd) (fun r2 wR1 H locs hp2 hWR hWC hd hS => ?_)
  refine lv_icmp_eq (tgt := 1054) hx hb dL_law_550 (by decide) (fun hq => ?_) (fun hq => ?_)
  · exact W.widen (k := cells + 2) (n := slots + 242) (by omega) (by omega) (kk _ _ _ _ _ ⟨(wf_turnInto hwf _ _ _), hp1.2, hp2.2, hWC, hWR, wd_sep hd, hS⟩)
  · exact absurd (hp1.1.trans hp2.1.symm) hq
set_option maxHeartbeats 4000000 in
set_option maxRecDepth 100000 in
theorem lw_c_tell {p : Program} {l : Launch} {e : Env} {s : State} {m : MethodId} {below : List Frame} {meth : Method} {c : Code} {b L : Nat} {xs : Nat → Int32} {H : Heap} {locs : List Loc} {cells slots : Nat} {Q : State → Prop} {ls : Array Slot} {D : va_G} {cI cT : ClassId} {o mm i : Nat} {S : Sg} {wC wR : Wd} (hL : L ≤ 3072) (C0 : lw_At p s m meth c b L xs) (hK : gK D cI cT s) (hJ : lw_J D cI cT s o mm S wC wR H locs) (hi : i + 6 ≤ L) (hc : cells + 2 ≤ 600000) (hs : slots + 242 ≤ 7302250) (hl : lv_has ls 4 [(0, .ref b), (1, .ref o), (2, .ref mm), (3, .int (nI i))])
    (kk : ∀ (S : Sg) (wC wR : Wd) (H : Heap) (locs : List Loc), lw_J D cI cT s o mm S wC wR H locs → W p l e room_1 s m #[Value.ref b] below meth c H locs (cells + 2) (slots + 242) Q (F0 m 1054 ls [])) : W p l e room_1 s m #[Value.ref b] below meth c H locs cells slots Q (F0 m 555 ls []) := by
  obtain ⟨hx, hb, hr, hml, hown, hts0, hX, hbl, hlocks, hgv⟩ := id C0
  have hown : s.vm.findClass RL = some m.cls := hown
  have hts : ∀ w ∈ wsL_law, w.before #[Value.ref b] s = true := fun w h => hts0 w (wsL_law_in w h)
  have hA : ∀ q, s.heap.size ≤ q → lw_A s q := fun _ h => h
  obtain ⟨cd, pl, df, tx, kp, rs⟩ := S
  obtain ⟨hwf, hIC, hIR, hWC, hWR, hd, hS⟩ := hJ
  obtain ⟨fC, hoC⟩ := hIC.recv
  obtain ⟨fR, hoR⟩ := hIR.recv
  refine lv_aload_n hx hb dL_law_555 rfl (lv_at hl 1 rfl) ?_
  refine lw_ld (j := 1) C0 hS hl hL (by omega) rfl dL_law_556 dL_law_557 dL_law_558 dL_law_559 dL_law_560 ?_
  refine lw_ld (j := 2) C0 hS hl hL (by omega) rfl dL_law_561 dL_law_562 dL_law_563 dL_law_564 dL_law_565 ?_
  refine lw_ld (j := 3) C0 hS hl hL (by omega) rfl dL_law_566 dL_law_567 dL_law_568 dL_law_569 dL_law_570 ?_
  refine wd_callVi2 (As := [.int (xs (i + 1)), .int (xs (i + 2)), .int (xs (i + 3))]) (rest := []) (c2 := cells + 2) (s2 := slots + 242) ⟨hx, hb, hml, hown, hts⟩ (k_X2_tell l D cI cT wC _ o cd pl df tx kp rs (xs (i + 1)) (xs (i + 2)) (xs (i + 3)) hwf hIC) (cwV 3 hts gL_law_X2_tell rfl rfl rfl (by decide +kernel) ⟨Nat.le_of_ble_eq_true rfl, Nat.le_of_ble_eq_true rfl⟩) gK_ok hK hWC (wd_recv (ci := 2) hK.1 hWC rfl hoC) hS hA rfl hl.1 rfl (Nat.le_of_ble_eq_true rfl) dL_law_571 ⟨by show cells + 2 ≤ 600000; omega, by show slots + 242 ≤ 7302250; omega⟩ rfl rfl hWR hd (fun r1 wC1 H locs hp1 hWC hWR hd hS => ?_)
  refine lv_aload_n hx hb dL_law_574 rfl (lv_at hl 2 rfl) ?_
  refine lw_ld (j := 1) C0 hS hl hL (by omega) rfl dL_law_575 dL_law_576 dL_law_577 dL_law_578 dL_law_579 ?_
  refine lw_ld (j := 2) C0 hS hl hL (by omega) rfl dL_law_580 dL_law_581 dL_law_582 dL_law_583 dL_law_584 ?_
  refine lw_ld (j := 3) C0 hS hl hL (by omega) rfl dL_law_585 dL_law_586 dL_law_587 dL_law_588 dL_law_589 ?_
  refine wd_callVi2 (As := [.int (xs (i + 1)), .int (xs (i + 2)), .int (xs (i + 3))]) (rest := [.int r1]) (c2 := (cells + 2)) (s2 := (slots + 242)) ⟨hx, hb, hml, hown, hts⟩ (k_X3_tell l D cI cT wR _ mm cd pl df tx kp rs (xs (i + 1)) (xs (i + 2)) (xs (i + 3)) hwf hIR) (cwV 3 hts gL_law_X3_tell rfl rfl rfl (by decide +kernel) ⟨Nat.le_of_ble_eq_true rfl, Nat.le_of_ble_eq_true rfl⟩) gK_ok hK hWR (wd_recv (ci := 3) hK.1 hWR rfl hoR) hS hA rfl hl.1 rfl (Nat.le_of_ble_eq_true rfl) dL_law_590 ⟨by show (cells + 2) + 0 ≤ 600000; omega, by show (slots + 242) + 0 ≤ 7302250; omega⟩ rfl rfl hWC (wd_sep hd) (fun r2 wR1 H locs hp2 hWR hWC hd hS => ?_)
  refine lv_icmp_eq (tgt := 1054) hx hb dL_law_593 (by decide) (fun hq => ?_) (fun hq => ?_)
  · exact W.widen (k := cells + 2) (n := slots + 242) (by omega) (by omega) (kk _ _ _ _ _ ⟨(wf_tell hwf _ _ _), hp1.2, hp2.2, hWC, hWR, wd_sep hd, hS⟩)
  · exact absurd (hp1.1.trans hp2.1.symm) hq
set_option maxHeartbeats 4000000 in
set_option maxRecDepth 100000 in
theorem lw_c_read {p : Program} {l : Launch} {e : Env} {s : State} {m : MethodId} {below : List Frame} {meth : Method} {c : Code} {b L : Nat} {xs : Nat → Int32} {H : Heap} {locs : List Loc} {cells slots : Nat} {Q : State → Prop} {ls : Array Slot} {D : va_G} {cI cT : ClassId} {o mm i : Nat} {S : Sg} {wC wR : Wd} (hL : L ≤ 3072) (C0 : lw_At p s m meth c b L xs) (hK : gK D cI cT s) (hJ : lw_J D cI cT s o mm S wC wR H locs) (hi : i + 6 ≤ L) (hc : cells + 2 ≤ 600000) (hs : slots + 242 ≤ 7302250) (hl : lv_has ls 4 [(0, .ref b), (1, .ref o), (2, .ref mm), (3, .int (nI i))])
    (kk : ∀ (S : Sg) (wC wR : Wd) (H : Heap) (locs : List Loc), lw_J D cI cT s o mm S wC wR H locs → W p l e room_1 s m #[Value.ref b] below meth c H locs (cells + 2) (slots + 242) Q (F0 m 1054 ls [])) : W p l e room_1 s m #[Value.ref b] below meth c H locs cells slots Q (F0 m 598 ls []) := by
  obtain ⟨hx, hb, hr, hml, hown, hts0, hX, hbl, hlocks, hgv⟩ := id C0
  have hown : s.vm.findClass RL = some m.cls := hown
  have hts : ∀ w ∈ wsL_law, w.before #[Value.ref b] s = true := fun w h => hts0 w (wsL_law_in w h)
  have hA : ∀ q, s.heap.size ≤ q → lw_A s q := fun _ h => h
  obtain ⟨cd, pl, df, tx, kp, rs⟩ := S
  obtain ⟨hwf, hIC, hIR, hWC, hWR, hd, hS⟩ := hJ
  obtain ⟨fC, hoC⟩ := hIC.recv
  obtain ⟨fR, hoR⟩ := hIR.recv
  refine lv_aload_n hx hb dL_law_598 rfl (lv_at hl 1 rfl) ?_
  refine lw_ld (j := 1) C0 hS hl hL (by omega) rfl dL_law_599 dL_law_600 dL_law_601 dL_law_602 dL_law_603 ?_
  refine lw_ld (j := 2) C0 hS hl hL (by omega) rfl dL_law_604 dL_law_605 dL_law_606 dL_law_607 dL_law_608 ?_
  refine lw_ld (j := 3) C0 hS hl hL (by omega) rfl dL_law_609 dL_law_610 dL_law_611 dL_law_612 dL_law_613 ?_
  refine wd_callVi2 (As := [.int (xs (i + 1)), .int (xs (i + 2)), .int (xs (i + 3))]) (rest := []) (c2 := cells + 2) (s2 := slots + 242) ⟨hx, hb, hml, hown, hts⟩ (k_X2_read l D cI cT wC _ o cd pl df tx kp rs (xs (i + 1)) (xs (i + 2)) (xs (i + 3)) hwf hIC) (cwV 3 hts gL_law_X2_read rfl rfl rfl (by decide +kernel) ⟨Nat.le_of_ble_eq_true rfl, Nat.le_of_ble_eq_true rfl⟩) gK_ok hK hWC (wd_recv (ci := 2) hK.1 hWC rfl hoC) hS hA rfl hl.1 rfl (Nat.le_of_ble_eq_true rfl) dL_law_614 ⟨by show cells + 2 ≤ 600000; omega, by show slots + 242 ≤ 7302250; omega⟩ rfl rfl hWR hd (fun r1 wC1 H locs hp1 hWC hWR hd hS => ?_)
  refine lv_aload_n hx hb dL_law_617 rfl (lv_at hl 2 rfl) ?_
  refine lw_ld (j := 1) C0 hS hl hL (by omega) rfl dL_law_618 dL_law_619 dL_law_620 dL_law_621 dL_law_622 ?_
  refine lw_ld (j := 2) C0 hS hl hL (by omega) rfl dL_law_623 dL_law_624 dL_law_625 dL_law_626 dL_law_627 ?_
  refine lw_ld (j := 3) C0 hS hl hL (by omega) rfl dL_law_628 dL_law_629 dL_law_630 dL_law_631 dL_law_632 ?_
  refine wd_callVi2 (As := [.int (xs (i + 1)), .int (xs (i + 2)), .int (xs (i + 3))]) (rest := [.int r1]) (c2 := (cells + 2)) (s2 := (slots + 242)) ⟨hx, hb, hml, hown, hts⟩ (k_X3_read l D cI cT wR _ mm cd pl df tx kp rs (xs (i + 1)) (xs (i + 2)) (xs (i + 3)) hwf hIR) (cwV 3 hts gL_law_X3_read rfl rfl rfl (by decide +kernel) ⟨Nat.le_of_ble_eq_true rfl, Nat.le_of_ble_eq_true rfl⟩) gK_ok hK hWR (wd_recv (ci := 3) hK.1 hWR rfl hoR) hS hA rfl hl.1 rfl (Nat.le_of_ble_eq_true rfl) dL_law_633 ⟨by show (cells + 2) + 0 ≤ 600000; omega, by show (slots + 242) + 0 ≤ 7302250; omega⟩ rfl rfl hWC (wd_sep hd) (fun r2 wR1 H locs hp2 hWR hWC hd hS => ?_)
  refine lv_icmp_eq (tgt := 1054) hx hb dL_law_636 (by decide) (fun hq => ?_) (fun hq => ?_)
  · exact W.widen (k := cells + 2) (n := slots + 242) (by omega) (by omega) (kk _ _ _ _ _ ⟨(wf_read hwf _ _ _), hp1.2, hp2.2, hWC, hWR, wd_sep hd, hS⟩)
  · exact absurd (hp1.1.trans hp2.1.symm) hq
set_option maxHeartbeats 4000000 in
set_option maxRecDepth 100000 in
theorem lw_c_cut {p : Program} {l : Launch} {e : Env} {s : State} {m : MethodId} {below : List Frame} {meth : Method} {c : Code} {b L : Nat} {xs : Nat → Int32} {H : Heap} {locs : List Loc} {cells slots : Nat} {Q : State → Prop} {ls : Array Slot} {D : va_G} {cI cT : ClassId} {o mm i : Nat} {S : Sg} {wC wR : Wd} (hL : L ≤ 3072) (C0 : lw_At p s m meth c b L xs) (hK : gK D cI cT s) (hJ : lw_J D cI cT s o mm S wC wR H locs) (hi : i + 6 ≤ L) (hc : cells + 2 ≤ 600000) (hs : slots + 242 ≤ 7302250) (hl : lv_has ls 4 [(0, .ref b), (1, .ref o), (2, .ref mm), (3, .int (nI i))])
    (kk : ∀ (S : Sg) (wC wR : Wd) (H : Heap) (locs : List Loc), lw_J D cI cT s o mm S wC wR H locs → W p l e room_1 s m #[Value.ref b] below meth c H locs (cells + 2) (slots + 242) Q (F0 m 1054 ls [])) : W p l e room_1 s m #[Value.ref b] below meth c H locs cells slots Q (F0 m 641 ls []) := by
  obtain ⟨hx, hb, hr, hml, hown, hts0, hX, hbl, hlocks, hgv⟩ := id C0
  have hown : s.vm.findClass RL = some m.cls := hown
  have hts : ∀ w ∈ wsL_law, w.before #[Value.ref b] s = true := fun w h => hts0 w (wsL_law_in w h)
  have hA : ∀ q, s.heap.size ≤ q → lw_A s q := fun _ h => h
  obtain ⟨cd, pl, df, tx, kp, rs⟩ := S
  obtain ⟨hwf, hIC, hIR, hWC, hWR, hd, hS⟩ := hJ
  obtain ⟨fC, hoC⟩ := hIC.recv
  obtain ⟨fR, hoR⟩ := hIR.recv
  refine lv_aload_n hx hb dL_law_641 rfl (lv_at hl 1 rfl) ?_
  refine lw_ld (j := 1) C0 hS hl hL (by omega) rfl dL_law_642 dL_law_643 dL_law_644 dL_law_645 dL_law_646 ?_
  refine lw_ld (j := 2) C0 hS hl hL (by omega) rfl dL_law_647 dL_law_648 dL_law_649 dL_law_650 dL_law_651 ?_
  refine lw_ld (j := 3) C0 hS hl hL (by omega) rfl dL_law_652 dL_law_653 dL_law_654 dL_law_655 dL_law_656 ?_
  refine lw_ld (j := 4) C0 hS hl hL (by omega) rfl dL_law_657 dL_law_658 dL_law_659 dL_law_660 dL_law_661 ?_
  refine wd_callVi2 (As := [.int (xs (i + 1)), .int (xs (i + 2)), .int (xs (i + 3)), .int (xs (i + 4))]) (rest := []) (c2 := cells + 2) (s2 := slots + 242) ⟨hx, hb, hml, hown, hts⟩ (k_X2_cut l D cI cT wC _ o cd pl df tx kp rs (xs (i + 1)) (xs (i + 2)) (xs (i + 3)) (xs (i + 4)) hwf hIC) (cwV 4 hts gL_law_X2_cut rfl rfl rfl (by decide +kernel) ⟨Nat.le_of_ble_eq_true rfl, Nat.le_of_ble_eq_true rfl⟩) gK_ok hK hWC (wd_recv (ci := 2) hK.1 hWC rfl hoC) hS hA rfl hl.1 rfl (Nat.le_of_ble_eq_true rfl) dL_law_662 ⟨by show cells + 2 ≤ 600000; omega, by show slots + 242 ≤ 7302250; omega⟩ rfl rfl hWR hd (fun r1 wC1 H locs hp1 hWC hWR hd hS => ?_)
  refine lv_aload_n hx hb dL_law_665 rfl (lv_at hl 2 rfl) ?_
  refine lw_ld (j := 1) C0 hS hl hL (by omega) rfl dL_law_666 dL_law_667 dL_law_668 dL_law_669 dL_law_670 ?_
  refine lw_ld (j := 2) C0 hS hl hL (by omega) rfl dL_law_671 dL_law_672 dL_law_673 dL_law_674 dL_law_675 ?_
  refine lw_ld (j := 3) C0 hS hl hL (by omega) rfl dL_law_676 dL_law_677 dL_law_678 dL_law_679 dL_law_680 ?_
  refine lw_ld (j := 4) C0 hS hl hL (by omega) rfl dL_law_681 dL_law_682 dL_law_683 dL_law_684 dL_law_685 ?_
  refine wd_callVi2 (As := [.int (xs (i + 1)), .int (xs (i + 2)), .int (xs (i + 3)), .int (xs (i + 4))]) (rest := [.int r1]) (c2 := (cells + 2)) (s2 := (slots + 242)) ⟨hx, hb, hml, hown, hts⟩ (k_X3_cut l D cI cT wR _ mm cd pl df tx kp rs (xs (i + 1)) (xs (i + 2)) (xs (i + 3)) (xs (i + 4)) hwf hIR) (cwV 4 hts gL_law_X3_cut rfl rfl rfl (by decide +kernel) ⟨Nat.le_of_ble_eq_true rfl, Nat.le_of_ble_eq_true rfl⟩) gK_ok hK hWR (wd_recv (ci := 3) hK.1 hWR rfl hoR) hS hA rfl hl.1 rfl (Nat.le_of_ble_eq_true rfl) dL_law_686 ⟨by show (cells + 2) + 0 ≤ 600000; omega, by show (slots + 242) + 0 ≤ 7302250; omega⟩ rfl rfl hWC (wd_sep hd) (fun r2 wR1 H locs hp2 hWR hWC hd hS => ?_)
  refine lv_icmp_eq (tgt := 1054) hx hb dL_law_689 (by decide) (fun hq => ?_) (fun hq => ?_)
  · exact W.widen (k := cells + 2) (n := slots + 242) (by omega) (by omega) (kk _ _ _ _ _ ⟨(wf_cut hwf _ _ _ _), hp1.2, hp2.2, hWC, hWR, wd_sep hd, hS⟩)
  · exact absurd (hp1.1.trans hp2.1.symm) hq
set_option maxHeartbeats 4000000 in
set_option maxRecDepth 100000 in
theorem lw_c_join {p : Program} {l : Launch} {e : Env} {s : State} {m : MethodId} {below : List Frame} {meth : Method} {c : Code} {b L : Nat} {xs : Nat → Int32} {H : Heap} {locs : List Loc} {cells slots : Nat} {Q : State → Prop} {ls : Array Slot} {D : va_G} {cI cT : ClassId} {o mm i : Nat} {S : Sg} {wC wR : Wd} (hL : L ≤ 3072) (C0 : lw_At p s m meth c b L xs) (hK : gK D cI cT s) (hJ : lw_J D cI cT s o mm S wC wR H locs) (hi : i + 6 ≤ L) (hc : cells + 2 ≤ 600000) (hs : slots + 242 ≤ 7302250) (hl : lv_has ls 4 [(0, .ref b), (1, .ref o), (2, .ref mm), (3, .int (nI i))])
    (kk : ∀ (S : Sg) (wC wR : Wd) (H : Heap) (locs : List Loc), lw_J D cI cT s o mm S wC wR H locs → W p l e room_1 s m #[Value.ref b] below meth c H locs (cells + 2) (slots + 242) Q (F0 m 1054 ls [])) : W p l e room_1 s m #[Value.ref b] below meth c H locs cells slots Q (F0 m 694 ls []) := by
  obtain ⟨hx, hb, hr, hml, hown, hts0, hX, hbl, hlocks, hgv⟩ := id C0
  have hown : s.vm.findClass RL = some m.cls := hown
  have hts : ∀ w ∈ wsL_law, w.before #[Value.ref b] s = true := fun w h => hts0 w (wsL_law_in w h)
  have hA : ∀ q, s.heap.size ≤ q → lw_A s q := fun _ h => h
  obtain ⟨cd, pl, df, tx, kp, rs⟩ := S
  obtain ⟨hwf, hIC, hIR, hWC, hWR, hd, hS⟩ := hJ
  obtain ⟨fC, hoC⟩ := hIC.recv
  obtain ⟨fR, hoR⟩ := hIR.recv
  refine lv_aload_n hx hb dL_law_694 rfl (lv_at hl 1 rfl) ?_
  refine lw_ld (j := 1) C0 hS hl hL (by omega) rfl dL_law_695 dL_law_696 dL_law_697 dL_law_698 dL_law_699 ?_
  refine lw_ld (j := 2) C0 hS hl hL (by omega) rfl dL_law_700 dL_law_701 dL_law_702 dL_law_703 dL_law_704 ?_
  refine lw_ld (j := 3) C0 hS hl hL (by omega) rfl dL_law_705 dL_law_706 dL_law_707 dL_law_708 dL_law_709 ?_
  refine wd_callVi2 (As := [.int (xs (i + 1)), .int (xs (i + 2)), .int (xs (i + 3))]) (rest := []) (c2 := cells + 2) (s2 := slots + 242) ⟨hx, hb, hml, hown, hts⟩ (k_X2_join l D cI cT wC _ o cd pl df tx kp rs (xs (i + 1)) (xs (i + 2)) (xs (i + 3)) hwf hIC) (cwV 3 hts gL_law_X2_join rfl rfl rfl (by decide +kernel) ⟨Nat.le_of_ble_eq_true rfl, Nat.le_of_ble_eq_true rfl⟩) gK_ok hK hWC (wd_recv (ci := 2) hK.1 hWC rfl hoC) hS hA rfl hl.1 rfl (Nat.le_of_ble_eq_true rfl) dL_law_710 ⟨by show cells + 2 ≤ 600000; omega, by show slots + 242 ≤ 7302250; omega⟩ rfl rfl hWR hd (fun r1 wC1 H locs hp1 hWC hWR hd hS => ?_)
  refine lv_aload_n hx hb dL_law_713 rfl (lv_at hl 2 rfl) ?_
  refine lw_ld (j := 1) C0 hS hl hL (by omega) rfl dL_law_714 dL_law_715 dL_law_716 dL_law_717 dL_law_718 ?_
  refine lw_ld (j := 2) C0 hS hl hL (by omega) rfl dL_law_719 dL_law_720 dL_law_721 dL_law_722 dL_law_723 ?_
  refine lw_ld (j := 3) C0 hS hl hL (by omega) rfl dL_law_724 dL_law_725 dL_law_726 dL_law_727 dL_law_728 ?_
  refine wd_callVi2 (As := [.int (xs (i + 1)), .int (xs (i + 2)), .int (xs (i + 3))]) (rest := [.int r1]) (c2 := (cells + 2)) (s2 := (slots + 242)) ⟨hx, hb, hml, hown, hts⟩ (k_X3_join l D cI cT wR _ mm cd pl df tx kp rs (xs (i + 1)) (xs (i + 2)) (xs (i + 3)) hwf hIR) (cwV 3 hts gL_law_X3_join rfl rfl rfl (by decide +kernel) ⟨Nat.le_of_ble_eq_true rfl, Nat.le_of_ble_eq_true rfl⟩) gK_ok hK hWR (wd_recv (ci := 3) hK.1 hWR rfl hoR) hS hA rfl hl.1 rfl (Nat.le_of_ble_eq_true rfl) dL_law_729 ⟨by show (cells + 2) + 0 ≤ 600000; omega, by show (slots + 242) + 0 ≤ 7302250; omega⟩ rfl rfl hWC (wd_sep hd) (fun r2 wR1 H locs hp2 hWR hWC hd hS => ?_)
  refine lv_icmp_eq (tgt := 1054) hx hb dL_law_732 (by decide) (fun hq => ?_) (fun hq => ?_)
  · exact W.widen (k := cells + 2) (n := slots + 242) (by omega) (by omega) (kk _ _ _ _ _ ⟨(wf_join hwf _ _ _), hp1.2, hp2.2, hWC, hWR, wd_sep hd, hS⟩)
  · exact absurd (hp1.1.trans hp2.1.symm) hq
set_option maxHeartbeats 4000000 in
set_option maxRecDepth 100000 in
theorem lw_c_back {p : Program} {l : Launch} {e : Env} {s : State} {m : MethodId} {below : List Frame} {meth : Method} {c : Code} {b L : Nat} {xs : Nat → Int32} {H : Heap} {locs : List Loc} {cells slots : Nat} {Q : State → Prop} {ls : Array Slot} {D : va_G} {cI cT : ClassId} {o mm i : Nat} {S : Sg} {wC wR : Wd} (hL : L ≤ 3072) (C0 : lw_At p s m meth c b L xs) (hK : gK D cI cT s) (hJ : lw_J D cI cT s o mm S wC wR H locs) (hi : i + 6 ≤ L) (hc : cells + 2 ≤ 600000) (hs : slots + 242 ≤ 7302250) (hl : lv_has ls 4 [(0, .ref b), (1, .ref o), (2, .ref mm), (3, .int (nI i))])
    (kk : ∀ (S : Sg) (wC wR : Wd) (H : Heap) (locs : List Loc), lw_J D cI cT s o mm S wC wR H locs → W p l e room_1 s m #[Value.ref b] below meth c H locs (cells + 2) (slots + 242) Q (F0 m 1054 ls [])) : W p l e room_1 s m #[Value.ref b] below meth c H locs cells slots Q (F0 m 737 ls []) := by
  obtain ⟨hx, hb, hr, hml, hown, hts0, hX, hbl, hlocks, hgv⟩ := id C0
  have hown : s.vm.findClass RL = some m.cls := hown
  have hts : ∀ w ∈ wsL_law, w.before #[Value.ref b] s = true := fun w h => hts0 w (wsL_law_in w h)
  have hA : ∀ q, s.heap.size ≤ q → lw_A s q := fun _ h => h
  obtain ⟨cd, pl, df, tx, kp, rs⟩ := S
  obtain ⟨hwf, hIC, hIR, hWC, hWR, hd, hS⟩ := hJ
  obtain ⟨fC, hoC⟩ := hIC.recv
  obtain ⟨fR, hoR⟩ := hIR.recv
  refine lv_aload_n hx hb dL_law_737 rfl (lv_at hl 1 rfl) ?_
  refine lw_ld (j := 1) C0 hS hl hL (by omega) rfl dL_law_738 dL_law_739 dL_law_740 dL_law_741 dL_law_742 ?_
  refine lw_ld (j := 2) C0 hS hl hL (by omega) rfl dL_law_743 dL_law_744 dL_law_745 dL_law_746 dL_law_747 ?_
  refine wd_callVi2 (As := [.int (xs (i + 1)), .int (xs (i + 2))]) (rest := []) (c2 := cells + 2) (s2 := slots + 242) ⟨hx, hb, hml, hown, hts⟩ (k_X2_back l D cI cT wC _ o cd pl df tx kp rs (xs (i + 1)) (xs (i + 2)) hwf hIC) (cwV 2 hts gL_law_X2_back rfl rfl rfl (by decide +kernel) ⟨Nat.le_of_ble_eq_true rfl, Nat.le_of_ble_eq_true rfl⟩) gK_ok hK hWC (wd_recv (ci := 2) hK.1 hWC rfl hoC) hS hA rfl hl.1 rfl (Nat.le_of_ble_eq_true rfl) dL_law_748 ⟨by show cells + 2 ≤ 600000; omega, by show slots + 242 ≤ 7302250; omega⟩ rfl rfl hWR hd (fun r1 wC1 H locs hp1 hWC hWR hd hS => ?_)
  refine lv_aload_n hx hb dL_law_751 rfl (lv_at hl 2 rfl) ?_
  refine lw_ld (j := 1) C0 hS hl hL (by omega) rfl dL_law_752 dL_law_753 dL_law_754 dL_law_755 dL_law_756 ?_
  refine lw_ld (j := 2) C0 hS hl hL (by omega) rfl dL_law_757 dL_law_758 dL_law_759 dL_law_760 dL_law_761 ?_
  refine wd_callVi2 (As := [.int (xs (i + 1)), .int (xs (i + 2))]) (rest := [.int r1]) (c2 := (cells + 2)) (s2 := (slots + 242)) ⟨hx, hb, hml, hown, hts⟩ (k_X3_back l D cI cT wR _ mm cd pl df tx kp rs (xs (i + 1)) (xs (i + 2)) hwf hIR) (cwV 2 hts gL_law_X3_back rfl rfl rfl (by decide +kernel) ⟨Nat.le_of_ble_eq_true rfl, Nat.le_of_ble_eq_true rfl⟩) gK_ok hK hWR (wd_recv (ci := 3) hK.1 hWR rfl hoR) hS hA rfl hl.1 rfl (Nat.le_of_ble_eq_true rfl) dL_law_762 ⟨by show (cells + 2) + 0 ≤ 600000; omega, by show (slots + 242) + 0 ≤ 7302250; omega⟩ rfl rfl hWC (wd_sep hd) (fun r2 wR1 H locs hp2 hWR hWC hd hS => ?_)
  refine lv_icmp_eq (tgt := 1054) hx hb dL_law_765 (by decide) (fun hq => ?_) (fun hq => ?_)
  · exact W.widen (k := cells + 2) (n := slots + 242) (by omega) (by omega) (kk _ _ _ _ _ ⟨(wf_back hwf _ _), hp1.2, hp2.2, hWC, hWR, wd_sep hd, hS⟩)
  · exact absurd (hp1.1.trans hp2.1.symm) hq
set_option maxHeartbeats 4000000 in
set_option maxRecDepth 100000 in
theorem lw_c_copy {p : Program} {l : Launch} {e : Env} {s : State} {m : MethodId} {below : List Frame} {meth : Method} {c : Code} {b L : Nat} {xs : Nat → Int32} {H : Heap} {locs : List Loc} {cells slots : Nat} {Q : State → Prop} {ls : Array Slot} {D : va_G} {cI cT : ClassId} {o mm i : Nat} {S : Sg} {wC wR : Wd} (hL : L ≤ 3072) (C0 : lw_At p s m meth c b L xs) (hK : gK D cI cT s) (hJ : lw_J D cI cT s o mm S wC wR H locs) (hi : i + 6 ≤ L) (hc : cells + 2 ≤ 600000) (hs : slots + 242 ≤ 7302250) (hl : lv_has ls 4 [(0, .ref b), (1, .ref o), (2, .ref mm), (3, .int (nI i))])
    (kk : ∀ (S : Sg) (wC wR : Wd) (H : Heap) (locs : List Loc), lw_J D cI cT s o mm S wC wR H locs → W p l e room_1 s m #[Value.ref b] below meth c H locs (cells + 2) (slots + 242) Q (F0 m 1054 ls [])) : W p l e room_1 s m #[Value.ref b] below meth c H locs cells slots Q (F0 m 770 ls []) := by
  obtain ⟨hx, hb, hr, hml, hown, hts0, hX, hbl, hlocks, hgv⟩ := id C0
  have hown : s.vm.findClass RL = some m.cls := hown
  have hts : ∀ w ∈ wsL_law, w.before #[Value.ref b] s = true := fun w h => hts0 w (wsL_law_in w h)
  have hA : ∀ q, s.heap.size ≤ q → lw_A s q := fun _ h => h
  obtain ⟨cd, pl, df, tx, kp, rs⟩ := S
  obtain ⟨hwf, hIC, hIR, hWC, hWR, hd, hS⟩ := hJ
  obtain ⟨fC, hoC⟩ := hIC.recv
  obtain ⟨fR, hoR⟩ := hIR.recv
  refine lv_aload_n hx hb dL_law_770 rfl (lv_at hl 1 rfl) ?_
  refine lw_ld (j := 1) C0 hS hl hL (by omega) rfl dL_law_771 dL_law_772 dL_law_773 dL_law_774 dL_law_775 ?_
  refine lw_ld (j := 2) C0 hS hl hL (by omega) rfl dL_law_776 dL_law_777 dL_law_778 dL_law_779 dL_law_780 ?_
  refine lw_ld (j := 3) C0 hS hl hL (by omega) rfl dL_law_781 dL_law_782 dL_law_783 dL_law_784 dL_law_785 ?_
  refine lw_ld (j := 4) C0 hS hl hL (by omega) rfl dL_law_786 dL_law_787 dL_law_788 dL_law_789 dL_law_790 ?_
  refine lw_ld (j := 5) C0 hS hl hL (by omega) rfl dL_law_791 dL_law_792 dL_law_793 dL_law_794 dL_law_795 ?_
  refine wd_callVi2 (As := [.int (xs (i + 1)), .int (xs (i + 2)), .int (xs (i + 3)), .int (xs (i + 4)), .int (xs (i + 5))]) (rest := []) (c2 := cells) (s2 := slots) ⟨hx, hb, hml, hown, hts⟩ (k_X2_copy l D cI cT wC _ o cd pl df tx kp rs (xs (i + 1)) (xs (i + 2)) (xs (i + 3)) (xs (i + 4)) (xs (i + 5)) hwf hIC) (cwV 5 hts gL_law_X2_copy rfl rfl rfl (by decide +kernel) ⟨Nat.le_of_ble_eq_true rfl, Nat.le_of_ble_eq_true rfl⟩) gK_ok hK hWC (wd_recv (ci := 2) hK.1 hWC rfl hoC) hS hA rfl hl.1 rfl (Nat.le_of_ble_eq_true rfl) dL_law_796 ⟨by show cells + 0 ≤ 600000; omega, by show slots + 0 ≤ 7302250; omega⟩ rfl rfl hWR hd (fun r1 wC1 H locs hp1 hWC hWR hd hS => ?_)
  refine lv_aload_n hx hb dL_law_799 rfl (lv_at hl 2 rfl) ?_
  refine lw_ld (j := 1) C0 hS hl hL (by omega) rfl dL_law_800 dL_law_801 dL_law_802 dL_law_803 dL_law_804 ?_
  refine lw_ld (j := 2) C0 hS hl hL (by omega) rfl dL_law_805 dL_law_806 dL_law_807 dL_law_808 dL_law_809 ?_
  refine lw_ld (j := 3) C0 hS hl hL (by omega) rfl dL_law_810 dL_law_811 dL_law_812 dL_law_813 dL_law_814 ?_
  refine lw_ld (j := 4) C0 hS hl hL (by omega) rfl dL_law_815 dL_law_816 dL_law_817 dL_law_818 dL_law_819 ?_
  refine lw_ld (j := 5) C0 hS hl hL (by omega) rfl dL_law_820 dL_law_821 dL_law_822 dL_law_823 dL_law_824 ?_
  refine wd_callVi2 (As := [.int (xs (i + 1)), .int (xs (i + 2)), .int (xs (i + 3)), .int (xs (i + 4)), .int (xs (i + 5))]) (rest := [.int r1]) (c2 := cells) (s2 := slots) ⟨hx, hb, hml, hown, hts⟩ (k_X3_copy l D cI cT wR _ mm cd pl df tx kp rs (xs (i + 1)) (xs (i + 2)) (xs (i + 3)) (xs (i + 4)) (xs (i + 5)) hwf hIR) (cwV 5 hts gL_law_X3_copy rfl rfl rfl (by decide +kernel) ⟨Nat.le_of_ble_eq_true rfl, Nat.le_of_ble_eq_true rfl⟩) gK_ok hK hWR (wd_recv (ci := 3) hK.1 hWR rfl hoR) hS hA rfl hl.1 rfl (Nat.le_of_ble_eq_true rfl) dL_law_825 ⟨by show cells + 0 ≤ 600000; omega, by show slots + 0 ≤ 7302250; omega⟩ rfl rfl hWC (wd_sep hd) (fun r2 wR1 H locs hp2 hWR hWC hd hS => ?_)
  refine lv_icmp_eq (tgt := 1054) hx hb dL_law_828 (by decide) (fun hq => ?_) (fun hq => ?_)
  · exact W.widen (k := cells + 2) (n := slots + 242) (by omega) (by omega) (kk _ _ _ _ _ ⟨(wf_copy hwf _ _ _ _ _), hp1.2, hp2.2, hWC, hWR, wd_sep hd, hS⟩)
  · exact absurd (hp1.1.trans hp2.1.symm) hq
set_option maxHeartbeats 4000000 in
set_option maxRecDepth 100000 in
theorem lw_c_find {p : Program} {l : Launch} {e : Env} {s : State} {m : MethodId} {below : List Frame} {meth : Method} {c : Code} {b L : Nat} {xs : Nat → Int32} {H : Heap} {locs : List Loc} {cells slots : Nat} {Q : State → Prop} {ls : Array Slot} {D : va_G} {cI cT : ClassId} {o mm i : Nat} {S : Sg} {wC wR : Wd} (hL : L ≤ 3072) (C0 : lw_At p s m meth c b L xs) (hK : gK D cI cT s) (hJ : lw_J D cI cT s o mm S wC wR H locs) (hi : i + 6 ≤ L) (hc : cells + 2 ≤ 600000) (hs : slots + 242 ≤ 7302250) (hl : lv_has ls 4 [(0, .ref b), (1, .ref o), (2, .ref mm), (3, .int (nI i))])
    (kk : ∀ (S : Sg) (wC wR : Wd) (H : Heap) (locs : List Loc), lw_J D cI cT s o mm S wC wR H locs → W p l e room_1 s m #[Value.ref b] below meth c H locs (cells + 2) (slots + 242) Q (F0 m 1054 ls [])) : W p l e room_1 s m #[Value.ref b] below meth c H locs cells slots Q (F0 m 833 ls []) := by
  obtain ⟨hx, hb, hr, hml, hown, hts0, hX, hbl, hlocks, hgv⟩ := id C0
  have hown : s.vm.findClass RL = some m.cls := hown
  have hts : ∀ w ∈ wsL_law, w.before #[Value.ref b] s = true := fun w h => hts0 w (wsL_law_in w h)
  have hA : ∀ q, s.heap.size ≤ q → lw_A s q := fun _ h => h
  obtain ⟨cd, pl, df, tx, kp, rs⟩ := S
  obtain ⟨hwf, hIC, hIR, hWC, hWR, hd, hS⟩ := hJ
  obtain ⟨fC, hoC⟩ := hIC.recv
  obtain ⟨fR, hoR⟩ := hIR.recv
  refine lv_aload_n hx hb dL_law_833 rfl (lv_at hl 1 rfl) ?_
  refine lw_ld (j := 1) C0 hS hl hL (by omega) rfl dL_law_834 dL_law_835 dL_law_836 dL_law_837 dL_law_838 ?_
  refine lw_ld (j := 2) C0 hS hl hL (by omega) rfl dL_law_839 dL_law_840 dL_law_841 dL_law_842 dL_law_843 ?_
  refine lw_ld (j := 3) C0 hS hl hL (by omega) rfl dL_law_844 dL_law_845 dL_law_846 dL_law_847 dL_law_848 ?_
  refine wd_callVi2 (As := [.int (xs (i + 1)), .int (xs (i + 2)), .int (xs (i + 3))]) (rest := []) (c2 := cells) (s2 := slots) ⟨hx, hb, hml, hown, hts⟩ (k_X2_find l D cI cT wC _ o cd pl df tx kp rs (xs (i + 1)) (xs (i + 2)) (xs (i + 3)) hwf hIC) (cwV 3 hts gL_law_X2_find rfl rfl rfl (by decide +kernel) ⟨Nat.le_of_ble_eq_true rfl, Nat.le_of_ble_eq_true rfl⟩) gK_ok hK hWC (wd_recv (ci := 2) hK.1 hWC rfl hoC) hS hA rfl hl.1 rfl (Nat.le_of_ble_eq_true rfl) dL_law_849 ⟨by show cells + 0 ≤ 600000; omega, by show slots + 0 ≤ 7302250; omega⟩ rfl rfl hWR hd (fun r1 wC1 H locs hp1 hWC hWR hd hS => ?_)
  refine lv_aload_n hx hb dL_law_852 rfl (lv_at hl 2 rfl) ?_
  refine lw_ld (j := 1) C0 hS hl hL (by omega) rfl dL_law_853 dL_law_854 dL_law_855 dL_law_856 dL_law_857 ?_
  refine lw_ld (j := 2) C0 hS hl hL (by omega) rfl dL_law_858 dL_law_859 dL_law_860 dL_law_861 dL_law_862 ?_
  refine lw_ld (j := 3) C0 hS hl hL (by omega) rfl dL_law_863 dL_law_864 dL_law_865 dL_law_866 dL_law_867 ?_
  refine wd_callVi2 (As := [.int (xs (i + 1)), .int (xs (i + 2)), .int (xs (i + 3))]) (rest := [.int r1]) (c2 := cells) (s2 := slots) ⟨hx, hb, hml, hown, hts⟩ (k_X3_find l D cI cT wR _ mm cd pl df tx kp rs (xs (i + 1)) (xs (i + 2)) (xs (i + 3)) hwf hIR) (cwV 3 hts gL_law_X3_find rfl rfl rfl (by decide +kernel) ⟨Nat.le_of_ble_eq_true rfl, Nat.le_of_ble_eq_true rfl⟩) gK_ok hK hWR (wd_recv (ci := 3) hK.1 hWR rfl hoR) hS hA rfl hl.1 rfl (Nat.le_of_ble_eq_true rfl) dL_law_868 ⟨by show cells + 0 ≤ 600000; omega, by show slots + 0 ≤ 7302250; omega⟩ rfl rfl hWC (wd_sep hd) (fun r2 wR1 H locs hp2 hWR hWC hd hS => ?_)
  refine lv_icmp_eq (tgt := 1054) hx hb dL_law_871 (by decide) (fun hq => ?_) (fun hq => ?_)
  · exact W.widen (k := cells + 2) (n := slots + 242) (by omega) (by omega) (kk _ _ _ _ _ ⟨(wf_find hwf _ _ _), hp1.2, hp2.2, hWC, hWR, wd_sep hd, hS⟩)
  · exact absurd (hp1.1.trans hp2.1.symm) hq
set_option maxHeartbeats 4000000 in
set_option maxRecDepth 100000 in
theorem lw_c_compare {p : Program} {l : Launch} {e : Env} {s : State} {m : MethodId} {below : List Frame} {meth : Method} {c : Code} {b L : Nat} {xs : Nat → Int32} {H : Heap} {locs : List Loc} {cells slots : Nat} {Q : State → Prop} {ls : Array Slot} {D : va_G} {cI cT : ClassId} {o mm i : Nat} {S : Sg} {wC wR : Wd} (hL : L ≤ 3072) (C0 : lw_At p s m meth c b L xs) (hK : gK D cI cT s) (hJ : lw_J D cI cT s o mm S wC wR H locs) (hi : i + 6 ≤ L) (hc : cells + 2 ≤ 600000) (hs : slots + 242 ≤ 7302250) (hl : lv_has ls 4 [(0, .ref b), (1, .ref o), (2, .ref mm), (3, .int (nI i))])
    (kk : ∀ (S : Sg) (wC wR : Wd) (H : Heap) (locs : List Loc), lw_J D cI cT s o mm S wC wR H locs → W p l e room_1 s m #[Value.ref b] below meth c H locs (cells + 2) (slots + 242) Q (F0 m 1054 ls [])) : W p l e room_1 s m #[Value.ref b] below meth c H locs cells slots Q (F0 m 876 ls []) := by
  obtain ⟨hx, hb, hr, hml, hown, hts0, hX, hbl, hlocks, hgv⟩ := id C0
  have hown : s.vm.findClass RL = some m.cls := hown
  have hts : ∀ w ∈ wsL_law, w.before #[Value.ref b] s = true := fun w h => hts0 w (wsL_law_in w h)
  have hA : ∀ q, s.heap.size ≤ q → lw_A s q := fun _ h => h
  obtain ⟨cd, pl, df, tx, kp, rs⟩ := S
  obtain ⟨hwf, hIC, hIR, hWC, hWR, hd, hS⟩ := hJ
  obtain ⟨fC, hoC⟩ := hIC.recv
  obtain ⟨fR, hoR⟩ := hIR.recv
  refine lv_aload_n hx hb dL_law_876 rfl (lv_at hl 1 rfl) ?_
  refine lw_ld (j := 1) C0 hS hl hL (by omega) rfl dL_law_877 dL_law_878 dL_law_879 dL_law_880 dL_law_881 ?_
  refine lw_ld (j := 2) C0 hS hl hL (by omega) rfl dL_law_882 dL_law_883 dL_law_884 dL_law_885 dL_law_886 ?_
  refine lw_ld (j := 3) C0 hS hl hL (by omega) rfl dL_law_887 dL_law_888 dL_law_889 dL_law_890 dL_law_891 ?_
  refine wd_callVi2 (As := [.int (xs (i + 1)), .int (xs (i + 2)), .int (xs (i + 3))]) (rest := []) (c2 := cells) (s2 := slots) ⟨hx, hb, hml, hown, hts⟩ (k_X2_compare l D cI cT wC _ o cd pl df tx kp rs (xs (i + 1)) (xs (i + 2)) (xs (i + 3)) hwf hIC) (cwV 3 hts gL_law_X2_compare rfl rfl rfl (by decide +kernel) ⟨Nat.le_of_ble_eq_true rfl, Nat.le_of_ble_eq_true rfl⟩) gK_ok hK hWC (wd_recv (ci := 2) hK.1 hWC rfl hoC) hS hA rfl hl.1 rfl (Nat.le_of_ble_eq_true rfl) dL_law_892 ⟨by show cells + 0 ≤ 600000; omega, by show slots + 0 ≤ 7302250; omega⟩ rfl rfl hWR hd (fun r1 wC1 H locs hp1 hWC hWR hd hS => ?_)
  refine lv_aload_n hx hb dL_law_895 rfl (lv_at hl 2 rfl) ?_
  refine lw_ld (j := 1) C0 hS hl hL (by omega) rfl dL_law_896 dL_law_897 dL_law_898 dL_law_899 dL_law_900 ?_
  refine lw_ld (j := 2) C0 hS hl hL (by omega) rfl dL_law_901 dL_law_902 dL_law_903 dL_law_904 dL_law_905 ?_
  refine lw_ld (j := 3) C0 hS hl hL (by omega) rfl dL_law_906 dL_law_907 dL_law_908 dL_law_909 dL_law_910 ?_
  refine wd_callVi2 (As := [.int (xs (i + 1)), .int (xs (i + 2)), .int (xs (i + 3))]) (rest := [.int r1]) (c2 := cells) (s2 := slots) ⟨hx, hb, hml, hown, hts⟩ (k_X3_compare l D cI cT wR _ mm cd pl df tx kp rs (xs (i + 1)) (xs (i + 2)) (xs (i + 3)) hwf hIR) (cwV 3 hts gL_law_X3_compare rfl rfl rfl (by decide +kernel) ⟨Nat.le_of_ble_eq_true rfl, Nat.le_of_ble_eq_true rfl⟩) gK_ok hK hWR (wd_recv (ci := 3) hK.1 hWR rfl hoR) hS hA rfl hl.1 rfl (Nat.le_of_ble_eq_true rfl) dL_law_911 ⟨by show cells + 0 ≤ 600000; omega, by show slots + 0 ≤ 7302250; omega⟩ rfl rfl hWC (wd_sep hd) (fun r2 wR1 H locs hp2 hWR hWC hd hS => ?_)
  refine lv_icmp_eq (tgt := 1054) hx hb dL_law_914 (by decide) (fun hq => ?_) (fun hq => ?_)
  · exact W.widen (k := cells + 2) (n := slots + 242) (by omega) (by omega) (kk _ _ _ _ _ ⟨(wf_compare hwf _ _ _), hp1.2, hp2.2, hWC, hWR, wd_sep hd, hS⟩)
  · exact absurd (hp1.1.trans hp2.1.symm) hq
set_option maxHeartbeats 4000000 in
set_option maxRecDepth 100000 in
theorem lw_c_change {p : Program} {l : Launch} {e : Env} {s : State} {m : MethodId} {below : List Frame} {meth : Method} {c : Code} {b L : Nat} {xs : Nat → Int32} {H : Heap} {locs : List Loc} {cells slots : Nat} {Q : State → Prop} {ls : Array Slot} {D : va_G} {cI cT : ClassId} {o mm i : Nat} {S : Sg} {wC wR : Wd} (hL : L ≤ 3072) (C0 : lw_At p s m meth c b L xs) (hK : gK D cI cT s) (hJ : lw_J D cI cT s o mm S wC wR H locs) (hi : i + 6 ≤ L) (hc : cells + 2 ≤ 600000) (hs : slots + 242 ≤ 7302250) (hl : lv_has ls 4 [(0, .ref b), (1, .ref o), (2, .ref mm), (3, .int (nI i))])
    (kk : ∀ (S : Sg) (wC wR : Wd) (H : Heap) (locs : List Loc), lw_J D cI cT s o mm S wC wR H locs → W p l e room_1 s m #[Value.ref b] below meth c H locs (cells + 2) (slots + 242) Q (F0 m 1054 ls [])) : W p l e room_1 s m #[Value.ref b] below meth c H locs cells slots Q (F0 m 919 ls []) := by
  obtain ⟨hx, hb, hr, hml, hown, hts0, hX, hbl, hlocks, hgv⟩ := id C0
  have hown : s.vm.findClass RL = some m.cls := hown
  have hts : ∀ w ∈ wsL_law, w.before #[Value.ref b] s = true := fun w h => hts0 w (wsL_law_in w h)
  have hA : ∀ q, s.heap.size ≤ q → lw_A s q := fun _ h => h
  obtain ⟨cd, pl, df, tx, kp, rs⟩ := S
  obtain ⟨hwf, hIC, hIR, hWC, hWR, hd, hS⟩ := hJ
  obtain ⟨fC, hoC⟩ := hIC.recv
  obtain ⟨fR, hoR⟩ := hIR.recv
  refine lv_aload_n hx hb dL_law_919 rfl (lv_at hl 1 rfl) ?_
  refine lw_ld (j := 1) C0 hS hl hL (by omega) rfl dL_law_920 dL_law_921 dL_law_922 dL_law_923 dL_law_924 ?_
  refine lw_ld (j := 2) C0 hS hl hL (by omega) rfl dL_law_925 dL_law_926 dL_law_927 dL_law_928 dL_law_929 ?_
  refine lw_ld (j := 3) C0 hS hl hL (by omega) rfl dL_law_930 dL_law_931 dL_law_932 dL_law_933 dL_law_934 ?_
  refine wd_callVi2 (As := [.int (xs (i + 1)), .int (xs (i + 2)), .int (xs (i + 3))]) (rest := []) (c2 := cells + 2) (s2 := slots + 242) ⟨hx, hb, hml, hown, hts⟩ (k_X2_change l D cI cT wC _ o cd pl df tx kp rs (xs (i + 1)) (xs (i + 2)) (xs (i + 3)) hwf hIC) (cwV 3 hts gL_law_X2_change rfl rfl rfl (by decide +kernel) ⟨Nat.le_of_ble_eq_true rfl, Nat.le_of_ble_eq_true rfl⟩) gK_ok hK hWC (wd_recv (ci := 2) hK.1 hWC rfl hoC) hS hA rfl hl.1 rfl (Nat.le_of_ble_eq_true rfl) dL_law_935 ⟨by show cells + 2 ≤ 600000; omega, by show slots + 242 ≤ 7302250; omega⟩ rfl rfl hWR hd (fun r1 wC1 H locs hp1 hWC hWR hd hS => ?_)
  refine lv_aload_n hx hb dL_law_938 rfl (lv_at hl 2 rfl) ?_
  refine lw_ld (j := 1) C0 hS hl hL (by omega) rfl dL_law_939 dL_law_940 dL_law_941 dL_law_942 dL_law_943 ?_
  refine lw_ld (j := 2) C0 hS hl hL (by omega) rfl dL_law_944 dL_law_945 dL_law_946 dL_law_947 dL_law_948 ?_
  refine lw_ld (j := 3) C0 hS hl hL (by omega) rfl dL_law_949 dL_law_950 dL_law_951 dL_law_952 dL_law_953 ?_
  refine wd_callVi2 (As := [.int (xs (i + 1)), .int (xs (i + 2)), .int (xs (i + 3))]) (rest := [.int r1]) (c2 := (cells + 2)) (s2 := (slots + 242)) ⟨hx, hb, hml, hown, hts⟩ (k_X3_change l D cI cT wR _ mm cd pl df tx kp rs (xs (i + 1)) (xs (i + 2)) (xs (i + 3)) hwf hIR) (cwV 3 hts gL_law_X3_change rfl rfl rfl (by decide +kernel) ⟨Nat.le_of_ble_eq_true rfl, Nat.le_of_ble_eq_true rfl⟩) gK_ok hK hWR (wd_recv (ci := 3) hK.1 hWR rfl hoR) hS hA rfl hl.1 rfl (Nat.le_of_ble_eq_true rfl) dL_law_954 ⟨by show (cells + 2) + 0 ≤ 600000; omega, by show (slots + 242) + 0 ≤ 7302250; omega⟩ rfl rfl hWC (wd_sep hd) (fun r2 wR1 H locs hp2 hWR hWC hd hS => ?_)
  refine lv_icmp_eq (tgt := 1054) hx hb dL_law_957 (by decide) (fun hq => ?_) (fun hq => ?_)
  · exact W.widen (k := cells + 2) (n := slots + 242) (by omega) (by omega) (kk _ _ _ _ _ ⟨(wf_change hwf _ _ _), hp1.2, hp2.2, hWC, hWR, wd_sep hd, hS⟩)
  · exact absurd (hp1.1.trans hp2.1.symm) hq
set_option maxHeartbeats 4000000 in
set_option maxRecDepth 100000 in
theorem lw_c_keep {p : Program} {l : Launch} {e : Env} {s : State} {m : MethodId} {below : List Frame} {meth : Method} {c : Code} {b L : Nat} {xs : Nat → Int32} {H : Heap} {locs : List Loc} {cells slots : Nat} {Q : State → Prop} {ls : Array Slot} {D : va_G} {cI cT : ClassId} {o mm i : Nat} {S : Sg} {wC wR : Wd} (hL : L ≤ 3072) (C0 : lw_At p s m meth c b L xs) (hK : gK D cI cT s) (hJ : lw_J D cI cT s o mm S wC wR H locs) (hi : i + 6 ≤ L) (hc : cells + 2 ≤ 600000) (hs : slots + 242 ≤ 7302250) (hl : lv_has ls 4 [(0, .ref b), (1, .ref o), (2, .ref mm), (3, .int (nI i))])
    (kk : ∀ (S : Sg) (wC wR : Wd) (H : Heap) (locs : List Loc), lw_J D cI cT s o mm S wC wR H locs → W p l e room_1 s m #[Value.ref b] below meth c H locs (cells + 2) (slots + 242) Q (F0 m 1054 ls [])) : W p l e room_1 s m #[Value.ref b] below meth c H locs cells slots Q (F0 m 962 ls []) := by
  obtain ⟨hx, hb, hr, hml, hown, hts0, hX, hbl, hlocks, hgv⟩ := id C0
  have hown : s.vm.findClass RL = some m.cls := hown
  have hts : ∀ w ∈ wsL_law, w.before #[Value.ref b] s = true := fun w h => hts0 w (wsL_law_in w h)
  have hA : ∀ q, s.heap.size ≤ q → lw_A s q := fun _ h => h
  obtain ⟨cd, pl, df, tx, kp, rs⟩ := S
  obtain ⟨hwf, hIC, hIR, hWC, hWR, hd, hS⟩ := hJ
  obtain ⟨fC, hoC⟩ := hIC.recv
  obtain ⟨fR, hoR⟩ := hIR.recv
  refine lv_aload_n hx hb dL_law_962 rfl (lv_at hl 1 rfl) ?_
  refine lw_ld (j := 1) C0 hS hl hL (by omega) rfl dL_law_963 dL_law_964 dL_law_965 dL_law_966 dL_law_967 ?_
  refine wd_callVi2 (As := [.int (xs (i + 1))]) (rest := []) (c2 := cells) (s2 := slots) ⟨hx, hb, hml, hown, hts⟩ (k_X2_keep l D cI cT wC _ o cd pl df tx kp rs (xs (i + 1)) hwf hIC) (cwV 1 hts gL_law_X2_keep rfl rfl rfl (by decide +kernel) ⟨Nat.le_of_ble_eq_true rfl, Nat.le_of_ble_eq_true rfl⟩) gK_ok hK hWC (wd_recv (ci := 2) hK.1 hWC rfl hoC) hS hA rfl hl.1 rfl (Nat.le_of_ble_eq_true rfl) dL_law_968 ⟨by show cells + 0 ≤ 600000; omega, by show slots + 0 ≤ 7302250; omega⟩ rfl rfl hWR hd (fun r1 wC1 H locs hp1 hWC hWR hd hS => ?_)
  refine lv_aload_n hx hb dL_law_971 rfl (lv_at hl 2 rfl) ?_
  refine lw_ld (j := 1) C0 hS hl hL (by omega) rfl dL_law_972 dL_law_973 dL_law_974 dL_law_975 dL_law_976 ?_
  refine wd_callVi2 (As := [.int (xs (i + 1))]) (rest := [.int r1]) (c2 := cells) (s2 := slots) ⟨hx, hb, hml, hown, hts⟩ (k_X3_keep l D cI cT wR _ mm cd pl df tx kp rs (xs (i + 1)) hwf hIR) (cwV 1 hts gL_law_X3_keep rfl rfl rfl (by decide +kernel) ⟨Nat.le_of_ble_eq_true rfl, Nat.le_of_ble_eq_true rfl⟩) gK_ok hK hWR (wd_recv (ci := 3) hK.1 hWR rfl hoR) hS hA rfl hl.1 rfl (Nat.le_of_ble_eq_true rfl) dL_law_977 ⟨by show cells + 0 ≤ 600000; omega, by show slots + 0 ≤ 7302250; omega⟩ rfl rfl hWC (wd_sep hd) (fun r2 wR1 H locs hp2 hWR hWC hd hS => ?_)
  refine lv_icmp_eq (tgt := 1054) hx hb dL_law_980 (by decide) (fun hq => ?_) (fun hq => ?_)
  · exact W.widen (k := cells + 2) (n := slots + 242) (by omega) (by omega) (kk _ _ _ _ _ ⟨(wf_keep hwf _), hp1.2, hp2.2, hWC, hWR, wd_sep hd, hS⟩)
  · exact absurd (hp1.1.trans hp2.1.symm) hq
set_option maxHeartbeats 4000000 in
set_option maxRecDepth 100000 in
theorem lw_c_kept {p : Program} {l : Launch} {e : Env} {s : State} {m : MethodId} {below : List Frame} {meth : Method} {c : Code} {b L : Nat} {xs : Nat → Int32} {H : Heap} {locs : List Loc} {cells slots : Nat} {Q : State → Prop} {ls : Array Slot} {D : va_G} {cI cT : ClassId} {o mm i : Nat} {S : Sg} {wC wR : Wd} (hL : L ≤ 3072) (C0 : lw_At p s m meth c b L xs) (hK : gK D cI cT s) (hJ : lw_J D cI cT s o mm S wC wR H locs) (hi : i + 6 ≤ L) (hc : cells + 2 ≤ 600000) (hs : slots + 242 ≤ 7302250) (hl : lv_has ls 4 [(0, .ref b), (1, .ref o), (2, .ref mm), (3, .int (nI i))])
    (kk : ∀ (S : Sg) (wC wR : Wd) (H : Heap) (locs : List Loc), lw_J D cI cT s o mm S wC wR H locs → W p l e room_1 s m #[Value.ref b] below meth c H locs (cells + 2) (slots + 242) Q (F0 m 1054 ls [])) : W p l e room_1 s m #[Value.ref b] below meth c H locs cells slots Q (F0 m 985 ls []) := by
  obtain ⟨hx, hb, hr, hml, hown, hts0, hX, hbl, hlocks, hgv⟩ := id C0
  have hown : s.vm.findClass RL = some m.cls := hown
  have hts : ∀ w ∈ wsL_law, w.before #[Value.ref b] s = true := fun w h => hts0 w (wsL_law_in w h)
  have hA : ∀ q, s.heap.size ≤ q → lw_A s q := fun _ h => h
  obtain ⟨cd, pl, df, tx, kp, rs⟩ := S
  obtain ⟨hwf, hIC, hIR, hWC, hWR, hd, hS⟩ := hJ
  obtain ⟨fC, hoC⟩ := hIC.recv
  obtain ⟨fR, hoR⟩ := hIR.recv
  refine lv_aload_n hx hb dL_law_985 rfl (lv_at hl 1 rfl) ?_
  refine wd_callVi2 (As := []) (rest := []) (c2 := cells) (s2 := slots) ⟨hx, hb, hml, hown, hts⟩ (k_X2_kept l D cI cT wC _ o cd pl df tx kp rs  hwf hIC) (cwV 0 hts gL_law_X2_kept rfl rfl rfl (by decide +kernel) ⟨Nat.le_of_ble_eq_true rfl, Nat.le_of_ble_eq_true rfl⟩) gK_ok hK hWC (wd_recv (ci := 2) hK.1 hWC rfl hoC) hS hA rfl hl.1 rfl (Nat.le_of_ble_eq_true rfl) dL_law_986 ⟨by show cells + 0 ≤ 600000; omega, by show slots + 0 ≤ 7302250; omega⟩ rfl rfl hWR hd (fun r1 wC1 H locs hp1 hWC hWR hd hS => ?_)
  refine lv_aload_n hx hb dL_law_989 rfl (lv_at hl 2 rfl) ?_
  refine wd_callVi2 (As := []) (rest := [.int r1]) (c2 := cells) (s2 := slots) ⟨hx, hb, hml, hown, hts⟩ (k_X3_kept l D cI cT wR _ mm cd pl df tx kp rs  hwf hIR) (cwV 0 hts gL_law_X3_kept rfl rfl rfl (by decide +kernel) ⟨Nat.le_of_ble_eq_true rfl, Nat.le_of_ble_eq_true rfl⟩) gK_ok hK hWR (wd_recv (ci := 3) hK.1 hWR rfl hoR) hS hA rfl hl.1 rfl (Nat.le_of_ble_eq_true rfl) dL_law_990 ⟨by show cells + 0 ≤ 600000; omega, by show slots + 0 ≤ 7302250; omega⟩ rfl rfl hWC (wd_sep hd) (fun r2 wR1 H locs hp2 hWR hWC hd hS => ?_)
  refine lv_icmp_eq (tgt := 1054) hx hb dL_law_993 (by decide) (fun hq => ?_) (fun hq => ?_)
  · exact W.widen (k := cells + 2) (n := slots + 242) (by omega) (by omega) (kk _ _ _ _ _ ⟨hwf, hp1.2, hp2.2, hWC, hWR, wd_sep hd, hS⟩)
  · exact absurd (hp1.1.trans hp2.1.symm) hq
set_option maxHeartbeats 4000000 in
set_option maxRecDepth 100000 in
theorem lw_c_same {p : Program} {l : Launch} {e : Env} {s : State} {m : MethodId} {below : List Frame} {meth : Method} {c : Code} {b L : Nat} {xs : Nat → Int32} {H : Heap} {locs : List Loc} {cells slots : Nat} {Q : State → Prop} {ls : Array Slot} {D : va_G} {cI cT : ClassId} {o mm i : Nat} {S : Sg} {wC wR : Wd} (hL : L ≤ 3072) (C0 : lw_At p s m meth c b L xs) (hK : gK D cI cT s) (hJ : lw_J D cI cT s o mm S wC wR H locs) (hi : i + 6 ≤ L) (hc : cells + 2 ≤ 600000) (hs : slots + 242 ≤ 7302250) (hl : lv_has ls 4 [(0, .ref b), (1, .ref o), (2, .ref mm), (3, .int (nI i))])
    (kk : ∀ (S : Sg) (wC wR : Wd) (H : Heap) (locs : List Loc), lw_J D cI cT s o mm S wC wR H locs → W p l e room_1 s m #[Value.ref b] below meth c H locs (cells + 2) (slots + 242) Q (F0 m 1054 ls [])) : W p l e room_1 s m #[Value.ref b] below meth c H locs cells slots Q (F0 m 998 ls []) := by
  obtain ⟨hx, hb, hr, hml, hown, hts0, hX, hbl, hlocks, hgv⟩ := id C0
  have hown : s.vm.findClass RL = some m.cls := hown
  have hts : ∀ w ∈ wsL_law, w.before #[Value.ref b] s = true := fun w h => hts0 w (wsL_law_in w h)
  have hA : ∀ q, s.heap.size ≤ q → lw_A s q := fun _ h => h
  obtain ⟨cd, pl, df, tx, kp, rs⟩ := S
  obtain ⟨hwf, hIC, hIR, hWC, hWR, hd, hS⟩ := hJ
  obtain ⟨fC, hoC⟩ := hIC.recv
  obtain ⟨fR, hoR⟩ := hIR.recv
  refine lv_aload_n hx hb dL_law_998 rfl (lv_at hl 1 rfl) ?_
  refine lw_ld (j := 1) C0 hS hl hL (by omega) rfl dL_law_999 dL_law_1000 dL_law_1001 dL_law_1002 dL_law_1003 ?_
  refine lw_ld (j := 2) C0 hS hl hL (by omega) rfl dL_law_1004 dL_law_1005 dL_law_1006 dL_law_1007 dL_law_1008 ?_
  refine wd_callVi2 (As := [.int (xs (i + 1)), .int (xs (i + 2))]) (rest := []) (c2 := cells) (s2 := slots) ⟨hx, hb, hml, hown, hts⟩ (k_X2_same l D cI cT wC _ o cd pl df tx kp rs (xs (i + 1)) (xs (i + 2)) hwf hIC) (cwV 2 hts gL_law_X2_same rfl rfl rfl (by decide +kernel) ⟨Nat.le_of_ble_eq_true rfl, Nat.le_of_ble_eq_true rfl⟩) gK_ok hK hWC (wd_recv (ci := 2) hK.1 hWC rfl hoC) hS hA rfl hl.1 rfl (Nat.le_of_ble_eq_true rfl) dL_law_1009 ⟨by show cells + 0 ≤ 600000; omega, by show slots + 0 ≤ 7302250; omega⟩ rfl rfl hWR hd (fun r1 wC1 H locs hp1 hWC hWR hd hS => ?_)
  refine lv_aload_n hx hb dL_law_1012 rfl (lv_at hl 2 rfl) ?_
  refine lw_ld (j := 1) C0 hS hl hL (by omega) rfl dL_law_1013 dL_law_1014 dL_law_1015 dL_law_1016 dL_law_1017 ?_
  refine lw_ld (j := 2) C0 hS hl hL (by omega) rfl dL_law_1018 dL_law_1019 dL_law_1020 dL_law_1021 dL_law_1022 ?_
  refine wd_callVi2 (As := [.int (xs (i + 1)), .int (xs (i + 2))]) (rest := [.int r1]) (c2 := cells) (s2 := slots) ⟨hx, hb, hml, hown, hts⟩ (k_X3_same l D cI cT wR _ mm cd pl df tx kp rs (xs (i + 1)) (xs (i + 2)) hwf hIR) (cwV 2 hts gL_law_X3_same rfl rfl rfl (by decide +kernel) ⟨Nat.le_of_ble_eq_true rfl, Nat.le_of_ble_eq_true rfl⟩) gK_ok hK hWR (wd_recv (ci := 3) hK.1 hWR rfl hoR) hS hA rfl hl.1 rfl (Nat.le_of_ble_eq_true rfl) dL_law_1023 ⟨by show cells + 0 ≤ 600000; omega, by show slots + 0 ≤ 7302250; omega⟩ rfl rfl hWC (wd_sep hd) (fun r2 wR1 H locs hp2 hWR hWC hd hS => ?_)
  refine lv_icmp_eq (tgt := 1054) hx hb dL_law_1026 (by decide) (fun hq => ?_) (fun hq => ?_)
  · exact W.widen (k := cells + 2) (n := slots + 242) (by omega) (by omega) (kk _ _ _ _ _ ⟨(wf_same hwf _ _), hp1.2, hp2.2, hWC, hWR, wd_sep hd, hS⟩)
  · exact absurd (hp1.1.trans hp2.1.symm) hq
set_option maxHeartbeats 4000000 in
set_option maxRecDepth 100000 in
theorem lw_c_kind {p : Program} {l : Launch} {e : Env} {s : State} {m : MethodId} {below : List Frame} {meth : Method} {c : Code} {b L : Nat} {xs : Nat → Int32} {H : Heap} {locs : List Loc} {cells slots : Nat} {Q : State → Prop} {ls : Array Slot} {D : va_G} {cI cT : ClassId} {o mm i : Nat} {S : Sg} {wC wR : Wd} (hL : L ≤ 3072) (C0 : lw_At p s m meth c b L xs) (hK : gK D cI cT s) (hJ : lw_J D cI cT s o mm S wC wR H locs) (hi : i + 6 ≤ L) (hc : cells + 2 ≤ 600000) (hs : slots + 242 ≤ 7302250) (hl : lv_has ls 4 [(0, .ref b), (1, .ref o), (2, .ref mm), (3, .int (nI i))])
    (kk : ∀ (S : Sg) (wC wR : Wd) (H : Heap) (locs : List Loc), lw_J D cI cT s o mm S wC wR H locs → W p l e room_1 s m #[Value.ref b] below meth c H locs (cells + 2) (slots + 242) Q (F0 m 1054 ls [])) : W p l e room_1 s m #[Value.ref b] below meth c H locs cells slots Q (F0 m 1031 ls []) := by
  obtain ⟨hx, hb, hr, hml, hown, hts0, hX, hbl, hlocks, hgv⟩ := id C0
  have hown : s.vm.findClass RL = some m.cls := hown
  have hts : ∀ w ∈ wsL_law, w.before #[Value.ref b] s = true := fun w h => hts0 w (wsL_law_in w h)
  have hA : ∀ q, s.heap.size ≤ q → lw_A s q := fun _ h => h
  obtain ⟨cd, pl, df, tx, kp, rs⟩ := S
  obtain ⟨hwf, hIC, hIR, hWC, hWR, hd, hS⟩ := hJ
  obtain ⟨fC, hoC⟩ := hIC.recv
  obtain ⟨fR, hoR⟩ := hIR.recv
  refine lv_aload_n hx hb dL_law_1031 rfl (lv_at hl 1 rfl) ?_
  refine lw_ld (j := 1) C0 hS hl hL (by omega) rfl dL_law_1032 dL_law_1033 dL_law_1034 dL_law_1035 dL_law_1036 ?_
  refine wd_callVi2 (As := [.int (xs (i + 1))]) (rest := []) (c2 := cells) (s2 := slots) ⟨hx, hb, hml, hown, hts⟩ (k_X2_kind l D cI cT wC _ o (xs (i + 1))) (cwV 1 hts gL_law_X2_kind rfl rfl rfl (by decide +kernel) ⟨Nat.le_of_ble_eq_true rfl, Nat.le_of_ble_eq_true rfl⟩) gK_ok hK hWC (wd_recv (ci := 2) hK.1 hWC rfl hoC) hS hA rfl hl.1 rfl (Nat.le_of_ble_eq_true rfl) dL_law_1037 ⟨by show cells + 0 ≤ 600000; omega, by show slots + 0 ≤ 7302250; omega⟩ rfl rfl hWR hd (fun r1 wC1 H locs hp1 hWC hWR hd hS => ?_)
  have hIC : InvC cI cT o (cd, pl, df, tx, kp, rs) wC1 := by rw [hp1.2]; exact hIC
  refine lv_aload_n hx hb dL_law_1040 rfl (lv_at hl 2 rfl) ?_
  refine lw_ld (j := 1) C0 hS hl hL (by omega) rfl dL_law_1041 dL_law_1042 dL_law_1043 dL_law_1044 dL_law_1045 ?_
  refine wd_callVi2 (As := [.int (xs (i + 1))]) (rest := [.int r1]) (c2 := cells) (s2 := slots) ⟨hx, hb, hml, hown, hts⟩ (k_X3_kind l D cI cT wR _ mm (xs (i + 1))) (cwV 1 hts gL_law_X3_kind rfl rfl rfl (by decide +kernel) ⟨Nat.le_of_ble_eq_true rfl, Nat.le_of_ble_eq_true rfl⟩) gK_ok hK hWR (wd_recv (ci := 3) hK.1 hWR rfl hoR) hS hA rfl hl.1 rfl (Nat.le_of_ble_eq_true rfl) dL_law_1046 ⟨by show cells + 0 ≤ 600000; omega, by show slots + 0 ≤ 7302250; omega⟩ rfl rfl hWC (wd_sep hd) (fun r2 wR1 H locs hp2 hWR hWC hd hS => ?_)
  have hIR : InvR cI mm (cd, pl, df, tx, kp, rs) wR1 := by rw [hp2.2]; exact hIR
  refine lv_icmp_eq (tgt := 1054) hx hb dL_law_1049 (by decide) (fun hq => ?_) (fun hq => ?_)
  · exact W.widen (k := cells + 2) (n := slots + 242) (by omega) (by omega) (kk _ _ _ _ _ ⟨hwf, hIC, hIR, hWC, hWR, wd_sep hd, hS⟩)
  · exact absurd (hp1.1.trans hp2.1.symm) hq
