theorem and31 (x : Int32) : ∃ k : Nat, k < 32 ∧ x &&& 31 = nI k := ⟨_, Nat.mod_lt _ (show 0 < 2 ^ 5 by decide), pk_and x 5 (by decide)⟩
set_option maxHeartbeats 4000000 in
set_option maxRecDepth 100000 in
/-- THE LAW'S LOOP: at its head the class and the reference stand in one state -/
theorem lw_loop {p : Program} {l : Launch} {e : Env} {s : State} {m : MethodId} {below : List Frame} {meth : Method} {c : Code} {b L : Nat} {xs : Nat → Int32} {D : va_G} {cI cT : ClassId} {o mm : Nat} (hL : L ≤ 3072) (C0 : lw_At p s m meth c b L xs) (hK : gK D cI cT s) :
    ∀ (n i : Nat) (S : Sg) (wC wR : Wd) (H : Heap) (locs : List Loc) (ls : Array Slot) (cells slots : Nat), L < i + 6 * n + 6 → i ≤ 3078 → cells + 2 * n ≤ 600000 → slots + 242 * n ≤ 7302250 → lw_J D cI cT s o mm S wC wR H locs → lv_has ls 4 [(0, .ref b), (1, .ref o), (2, .ref mm), (3, .int (nI i))] → W p l e room_1 s m #[Value.ref b] below meth c H locs cells slots (lw_Z below #[Value.ref b] s) (F0 m 18 ls []) := by
  obtain ⟨hx, hb, hr, hml, hown, hts, hX, hbl, hlocks, hgv⟩ := id C0
  have hbA : ¬ lw_A s b := Nat.not_le.mpr hbl
  have eL : (Int32.ofNat L).toInt = (L : Int) := nI_toInt (by omega)
  have e6 : (6 : Int32).toInt = 6 := rfl
  intro n
  induction n with
  | zero =>
    intro i S wC wR H locs ls cells slots h1 h2 h3 h4 hJ hl
    have hS := hJ.2.2.2.2.2.2
    refine lv_iload_n hx hb dL_law_18 rfl (lv_at hl 3 rfl) ?_
    refine lv_aload_n hx hb dL_law_19 rfl (lv_at hl 0 rfl) ?_
    refine va_slen hx hb hX hbl hbA hS dL_law_20 ?_
    refine lv_bipush (v := 6) hx hb dL_law_21 (by decide) ?_
    refine lv_isub hx hb dL_law_23 ?_
    refine lv_icmp_gt (tgt := 1060) hx hb dL_law_24 (by decide) (fun hq => ?_) (fun hq => ?_)
    · refine lv_iconst (v := 1) hx hb dL_law_1060 (by decide) ?_
      refine va_forget (fun q hq => hS.2.2 q hq) ?_
      refine W.widen (k := 600000) (n := 7302250) (by omega) (by omega) ?_
      exact lw_ret hx hb hr hlocks dL_law_1061
    · exfalso
      apply hq
      rw [i_lt, i_sub (by omega) (by omega), eL, e6, nI_toInt (by omega)]
      omega
  | succ n ih =>
    intro i S wC wR H locs ls cells slots h1 h2 h3 h4 hJ hl
    have hS := hJ.2.2.2.2.2.2
    refine lv_iload_n hx hb dL_law_18 rfl (lv_at hl 3 rfl) ?_
    refine lv_aload_n hx hb dL_law_19 rfl (lv_at hl 0 rfl) ?_
    refine va_slen hx hb hX hbl hbA hS dL_law_20 ?_
    refine lv_bipush (v := 6) hx hb dL_law_21 (by decide) ?_
    refine lv_isub hx hb dL_law_23 ?_
    refine lv_icmp_gt (tgt := 1060) hx hb dL_law_24 (by decide) (fun hq => ?_) (fun hq => ?_)
    · refine lv_iconst (v := 1) hx hb dL_law_1060 (by decide) ?_
      refine va_forget (fun q hq => hS.2.2 q hq) ?_
      refine W.widen (k := 600000) (n := 7302250) (by omega) (by omega) ?_
      exact lw_ret hx hb hr hlocks dL_law_1061
    · have hi : i + 6 ≤ L := by
        rw [i_lt, i_sub (by omega) (by omega), eL, e6, nI_toInt (by omega)] at hq
        omega
      have go : ∀ (S : Sg) (wC wR : Wd) (H : Heap) (locs : List Loc), lw_J D cI cT s o mm S wC wR H locs → W p l e room_1 s m #[Value.ref b] below meth c H locs (cells + 2) (slots + 242) (lw_Z below #[Value.ref b] s) (F0 m 1054 ls []) := by
        intro S wC wR H locs hJ
        refine lv_iinc (v := nI (i + 6)) (lv' := [(3, .int (nI (i + 6))), (0, .ref b), (1, .ref o), (2, .ref mm)]) hx hb dL_law_1054 hl (k := 3) rfl (nI_add i 6) (by decide) rfl (fun ls hl => ?_)
        refine lv_goto (tgt := 18) hx hb dL_law_1057 (by decide) ?_
        exact ih (i + 6) S wC wR H locs ls (cells + 2) (slots + 242) (by omega) (by omega) (by omega) (by omega) hJ (lv_sub hl [1, 2, 3, 0] rfl)
      have hc : cells + 2 ≤ 600000 := by omega
      have hs : slots + 242 ≤ 7302250 := by omega
      refine lv_aload_n hx hb dL_law_27 rfl (lv_at hl 0 rfl) ?_
      refine lv_iload_n hx hb dL_law_28 rfl (lv_at hl 3 rfl) ?_
      refine va_sld hx hb hX hbl hbA hS (vp_in_nI (by omega) (by omega)) dL_law_29 ?_
      refine lv_bipush (v := 31) hx hb dL_law_30 (by decide) ?_
      refine lv_iand hx hb dL_law_32 ?_
      obtain ⟨k, hk, hke⟩ := and31 (xs (nI i).toNatClampNeg)
      refine wd_topE (y := nI k) hke ?_
      rcases Nat.lt_or_ge k 28 with h28 | h28
      · match k, h28 with
        | 0, _ => exact lv_tableIn (off := 127) (tgt := 160) hx hb dL_law_33 (by decide) (by decide) rfl (by decide) (lw_c_code hL C0 hK hJ hi hc hs hl go)
        | 1, _ => exact lv_tableIn (off := 140) (tgt := 173) hx hb dL_law_33 (by decide) (by decide) rfl (by decide) (lw_c_place hL C0 hK hJ hi hc hs hl go)
        | 2, _ => exact lv_tableIn (off := 153) (tgt := 186) hx hb dL_law_33 (by decide) (by decide) rfl (by decide) (lw_c_point hL C0 hK hJ hi hc hs hl go)
        | 3, _ => exact lv_tableIn (off := 176) (tgt := 209) hx hb dL_law_33 (by decide) (by decide) rfl (by decide) (lw_c_unit hL C0 hK hJ hi hc hs hl go)
        | 4, _ => exact lv_tableIn (off := 199) (tgt := 232) hx hb dL_law_33 (by decide) (by decide) rfl (by decide) (lw_c_fresh hL C0 hK hJ hi hc hs hl go)
        | 5, _ => exact lv_tableIn (off := 212) (tgt := 245) hx hb dL_law_33 (by decide) (by decide) rfl (by decide) (lw_c_lay hL C0 hK hJ hi hc hs hl go)
        | 6, _ => exact lv_tableIn (off := 245) (tgt := 278) hx hb dL_law_33 (by decide) (by decide) rfl (by decide) (lw_c_share hL C0 hK hJ hi hc hs hl go)
        | 7, _ => exact lv_tableIn (off := 278) (tgt := 311) hx hb dL_law_33 (by decide) (by decide) rfl (by decide) (lw_c_nothing hL C0 hK hJ hi hc hs hl go)
        | 8, _ => exact lv_tableIn (off := 301) (tgt := 334) hx hb dL_law_33 (by decide) (by decide) rfl (by decide) (lw_c_sort hL C0 hK hJ hi hc hs hl go)
        | 9, _ => exact lv_tableIn (off := 324) (tgt := 357) hx hb dL_law_33 (by decide) (by decide) rfl (by decide) (lw_c_length hL C0 hK hJ hi hc hs hl go)
        | 10, _ => exact lv_tableIn (off := 347) (tgt := 380) hx hb dL_law_33 (by decide) (by decide) rfl (by decide) (lw_c_points hL C0 hK hJ hi hc hs hl go)
        | 11, _ => exact lv_tableIn (off := 370) (tgt := 403) hx hb dL_law_33 (by decide) (by decide) rfl (by decide) (lw_c_at hL C0 hK hJ hi hc hs hl go)
        | 12, _ => exact lv_tableIn (off := 403) (tgt := 436) hx hb dL_law_33 (by decide) (by decide) rfl (by decide) (lw_c_pointAt hL C0 hK hJ hi hc hs hl go)
        | 13, _ => exact lv_tableIn (off := 436) (tgt := 469) hx hb dL_law_33 (by decide) (by decide) rfl (by decide) (lw_c_put hL C0 hK hJ hi hc hs hl go)
        | 14, _ => exact lv_tableIn (off := 479) (tgt := 512) hx hb dL_law_33 (by decide) (by decide) rfl (by decide) (lw_c_turnInto hL C0 hK hJ hi hc hs hl go)
        | 15, _ => exact lv_tableIn (off := 522) (tgt := 555) hx hb dL_law_33 (by decide) (by decide) rfl (by decide) (lw_c_tell hL C0 hK hJ hi hc hs hl go)
        | 16, _ => exact lv_tableIn (off := 565) (tgt := 598) hx hb dL_law_33 (by decide) (by decide) rfl (by decide) (lw_c_read hL C0 hK hJ hi hc hs hl go)
        | 17, _ => exact lv_tableIn (off := 608) (tgt := 641) hx hb dL_law_33 (by decide) (by decide) rfl (by decide) (lw_c_cut hL C0 hK hJ hi hc hs hl go)
        | 18, _ => exact lv_tableIn (off := 661) (tgt := 694) hx hb dL_law_33 (by decide) (by decide) rfl (by decide) (lw_c_join hL C0 hK hJ hi hc hs hl go)
        | 19, _ => exact lv_tableIn (off := 704) (tgt := 737) hx hb dL_law_33 (by decide) (by decide) rfl (by decide) (lw_c_back hL C0 hK hJ hi hc hs hl go)
        | 20, _ => exact lv_tableIn (off := 737) (tgt := 770) hx hb dL_law_33 (by decide) (by decide) rfl (by decide) (lw_c_copy hL C0 hK hJ hi hc hs hl go)
        | 21, _ => exact lv_tableIn (off := 800) (tgt := 833) hx hb dL_law_33 (by decide) (by decide) rfl (by decide) (lw_c_find hL C0 hK hJ hi hc hs hl go)
        | 22, _ => exact lv_tableIn (off := 843) (tgt := 876) hx hb dL_law_33 (by decide) (by decide) rfl (by decide) (lw_c_compare hL C0 hK hJ hi hc hs hl go)
        | 23, _ => exact lv_tableIn (off := 886) (tgt := 919) hx hb dL_law_33 (by decide) (by decide) rfl (by decide) (lw_c_change hL C0 hK hJ hi hc hs hl go)
        | 24, _ => exact lv_tableIn (off := 929) (tgt := 962) hx hb dL_law_33 (by decide) (by decide) rfl (by decide) (lw_c_keep hL C0 hK hJ hi hc hs hl go)
        | 25, _ => exact lv_tableIn (off := 952) (tgt := 985) hx hb dL_law_33 (by decide) (by decide) rfl (by decide) (lw_c_kept hL C0 hK hJ hi hc hs hl go)
        | 26, _ => exact lv_tableIn (off := 965) (tgt := 998) hx hb dL_law_33 (by decide) (by decide) rfl (by decide) (lw_c_same hL C0 hK hJ hi hc hs hl go)
        | 27, _ => exact lv_tableIn (off := 998) (tgt := 1031) hx hb dL_law_33 (by decide) (by decide) rfl (by decide) (lw_c_kind hL C0 hK hJ hi hc hs hl go)
        | k + 28, h => exact absurd h (by omega)
      · refine lv_tableOut (tgt := 1054) hx hb dL_law_33 (Or.inr (by rw [nI_toInt (by omega)]; omega)) (by decide) ?_
        exact W.widen (k := cells + 2) (n := slots + 242) (by omega) (by omega) (go S wC wR H locs hJ)
