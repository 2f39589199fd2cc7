theorem lw_ld {p : Program} {l : Launch} {e : Env} {s : State} {m : MethodId} {below : List Frame} {meth : Method} {c : Code} {b L : Nat} {xs : Nat → Int32} {H : Heap} {locs : List Loc} {cells slots : Nat} {Q : State → Prop} {pc : Nat} {ls : Array Slot} {rest : List Value} {o mm i j : Nat} {jv : Int} (C0 : lw_At p s m meth c b L xs) (hS : va_S (lw_A s) s.heap H locs) (hl : lv_has ls 4 [(0, .ref b), (1, .ref o), (2, .ref mm), (3, .int (nI i))]) (hL : L ≤ 3072) (hij : i + j < L) (hj : Int32.ofInt jv = nI j)
    (d0 : decode cL_law pc = .ok (.aload_n 0, 1)) (d1 : decode cL_law (pc + 1) = .ok (.iload_n 3, 1)) (d2 : decode cL_law (pc + 2) = .ok (.iconst jv, 1)) (d3 : decode cL_law (pc + 3) = .ok (.iadd, 1)) (d4 : decode cL_law (pc + 4) = .ok (.iaload, 1))
    (kk : W p l e room_1 s m #[Value.ref b] below meth c H locs cells slots Q (F0 m (pc + 5) ls (.int (xs (i + j)) :: rest))) : W p l e room_1 s m #[Value.ref b] below meth c H locs cells slots Q (F0 m pc ls rest) := by
  obtain ⟨hx, hb, hr, hml, hown, hts, hX, hbl, hlocks, hgv⟩ := C0
  have hbA : ¬ lw_A s b := Nat.not_le.mpr hbl
  refine lv_aload_n hx hb d0 rfl (lv_at hl 0 rfl) ?_
  refine lv_iload_n hx hb d1 rfl (lv_at hl 3 rfl) ?_
  refine lv_iconst hx hb d2 hj ?_
  refine lv_iadd hx hb d3 ?_
  refine wd_topE (y := nI (i + j)) (nI_add i j) ?_
  refine va_sld hx hb hX hbl hbA hS (vp_in_nI hij (by omega)) d4 ?_
  refine wd_topE (y := xs (i + j)) (by rw [nI_clamp (by omega)]) ?_
  exact kk
set_option maxHeartbeats 4000000 in
set_option maxRecDepth 100000 in
theorem lw_c_code {p : Program} {l : Launch} {e : Env} {s : State} {m : MethodId} {below : List Frame} {meth : Method} {c : Code} {b L : Nat} {xs : Nat → Int32} {H : Heap} {locs : List Loc} {cells slots : Nat} {Q : State → Prop} {ls : Array Slot} {D : va_G} {cI cT : ClassId} {o mm i : Nat} {S : Sg} {wC wR : Wd} (hL : L ≤ 3072) (C0 : lw_At p s m meth c b L xs) (hK : gK D cI cT s) (hJ : lw_J D cI cT s o mm S wC wR H locs) (hi : i + 6 ≤ L) (hc : cells + 2 ≤ 600000) (hs : slots + 242 ≤ 7302250) (hl : lv_has ls 4 [(0, .ref b), (1, .ref o), (2, .ref mm), (3, .int (nI i))])
    (kk : ∀ (S : Sg) (wC wR : Wd) (H : Heap) (locs : List Loc), lw_J D cI cT s o mm S wC wR H locs → W p l e room_1 s m #[Value.ref b] below meth c H locs (cells + 2) (slots + 242) Q (F0 m 1054 ls [])) : W p l e room_1 s m #[Value.ref b] below meth c H locs cells slots Q (F0 m 160 ls []) := by
  obtain ⟨hx, hb, hr, hml, hown, hts0, hX, hbl, hlocks, hgv⟩ := id C0
  have hown : s.vm.findClass RL = some m.cls := hown
  have hts : ∀ w ∈ wsL_law, w.before #[Value.ref b] s = true := fun w h => hts0 w (wsL_law_in w h)
  have hA : ∀ q, s.heap.size ≤ q → lw_A s q := fun _ h => h
  obtain ⟨cd, pl, df, tx, kp, rs⟩ := S
  obtain ⟨hwf, hIC, hIR, hWC, hWR, hd, hS⟩ := hJ
  obtain ⟨fC, hoC⟩ := hIC.recv
  obtain ⟨fR, hoR⟩ := hIR.recv
  refine lv_aload_n hx hb dL_law_160 rfl (lv_at hl 1 rfl) ?_
  refine wd_callVi2 (As := []) (rest := []) (c2 := cells) (s2 := slots) ⟨hx, hb, hml, hown, hts⟩ (k_X2_code l D cI cT wC _ o cd pl df tx kp rs  hwf hIC) (cwV 0 hts gL_law_X2_code rfl rfl rfl (by decide +kernel) ⟨Nat.le_of_ble_eq_true rfl, Nat.le_of_ble_eq_true rfl⟩) gK_ok hK hWC (wd_recv (ci := 2) hK.1 hWC rfl hoC) hS hA rfl hl.1 rfl (Nat.le_of_ble_eq_true rfl) dL_law_161 ⟨by show cells + 0 ≤ 600000; omega, by show slots + 0 ≤ 7302250; omega⟩ rfl rfl hWR hd (fun r1 wC1 H locs hp1 hWC hWR hd hS => ?_)
  refine lv_aload_n hx hb dL_law_164 rfl (lv_at hl 2 rfl) ?_
  refine wd_callVi2 (As := []) (rest := [.int r1]) (c2 := cells) (s2 := slots) ⟨hx, hb, hml, hown, hts⟩ (k_X3_code l D cI cT wR _ mm cd pl df tx kp rs  hwf hIR) (cwV 0 hts gL_law_X3_code rfl rfl rfl (by decide +kernel) ⟨Nat.le_of_ble_eq_true rfl, Nat.le_of_ble_eq_true rfl⟩) gK_ok hK hWR (wd_recv (ci := 3) hK.1 hWR rfl hoR) hS hA rfl hl.1 rfl (Nat.le_of_ble_eq_true rfl) dL_law_165 ⟨by show cells + 0 ≤ 600000; omega, by show slots + 0 ≤ 7302250; omega⟩ rfl rfl hWC (wd_sep hd) (fun r2 wR1 H locs hp2 hWR hWC hd hS => ?_)
  refine lv_icmp_eq (tgt := 1054) hx hb dL_law_168 (by decide) (fun hq => ?_) (fun hq => ?_)
  · exact W.widen (k := cells + 2) (n := slots + 242) (by omega) (by omega) (kk _ _ _ _ _ ⟨hwf, hp1.2, hp2.2, hWC, hWR, wd_sep hd, hS⟩)
  · exact absurd (hp1.1.trans hp2.1.symm) hq
set_option maxHeartbeats 4000000 in
set_option maxRecDepth 100000 in
theorem lw_c_place {p : Program} {l : Launch} {e : Env} {s : State} {m : MethodId} {below : List Frame} {meth : Method} {c : Code} {b L : Nat} {xs : Nat → Int32} {H : Heap} {locs : List Loc} {cells slots : Nat} {Q : State → Prop} {ls : Array Slot} {D : va_G} {cI cT : ClassId} {o mm i : Nat} {S : Sg} {wC wR : Wd} (hL : L ≤ 3072) (C0 : lw_At p s m meth c b L xs) (hK : gK D cI cT s) (hJ : lw_J D cI cT s o mm S wC wR H locs) (hi : i + 6 ≤ L) (hc : cells + 2 ≤ 600000) (hs : slots + 242 ≤ 7302250) (hl : lv_has ls 4 [(0, .ref b), (1, .ref o), (2, .ref mm), (3, .int (nI i))])
    (kk : ∀ (S : Sg) (wC wR : Wd) (H : Heap) (locs : List Loc), lw_J D cI cT s o mm S wC wR H locs → W p l e room_1 s m #[Value.ref b] below meth c H locs (cells + 2) (slots + 242) Q (F0 m 1054 ls [])) : W p l e room_1 s m #[Value.ref b] below meth c H locs cells slots Q (F0 m 173 ls []) := by
  obtain ⟨hx, hb, hr, hml, hown, hts0, hX, hbl, hlocks, hgv⟩ := id C0
  have hown : s.vm.findClass RL = some m.cls := hown
  have hts : ∀ w ∈ wsL_law, w.before #[Value.ref b] s = true := fun w h => hts0 w (wsL_law_in w h)
  have hA : ∀ q, s.heap.size ≤ q → lw_A s q := fun _ h => h
  obtain ⟨cd, pl, df, tx, kp, rs⟩ := S
  obtain ⟨hwf, hIC, hIR, hWC, hWR, hd, hS⟩ := hJ
  obtain ⟨fC, hoC⟩ := hIC.recv
  obtain ⟨fR, hoR⟩ := hIR.recv
  refine lv_aload_n hx hb dL_law_173 rfl (lv_at hl 1 rfl) ?_
  refine wd_callVi2 (As := []) (rest := []) (c2 := cells) (s2 := slots) ⟨hx, hb, hml, hown, hts⟩ (k_X2_place l D cI cT wC _ o cd pl df tx kp rs  hwf hIC) (cwV 0 hts gL_law_X2_place rfl rfl rfl (by decide +kernel) ⟨Nat.le_of_ble_eq_true rfl, Nat.le_of_ble_eq_true rfl⟩) gK_ok hK hWC (wd_recv (ci := 2) hK.1 hWC rfl hoC) hS hA rfl hl.1 rfl (Nat.le_of_ble_eq_true rfl) dL_law_174 ⟨by show cells + 0 ≤ 600000; omega, by show slots + 0 ≤ 7302250; omega⟩ rfl rfl hWR hd (fun r1 wC1 H locs hp1 hWC hWR hd hS => ?_)
  refine lv_aload_n hx hb dL_law_177 rfl (lv_at hl 2 rfl) ?_
  refine wd_callVi2 (As := []) (rest := [.int r1]) (c2 := cells) (s2 := slots) ⟨hx, hb, hml, hown, hts⟩ (k_X3_place l D cI cT wR _ mm cd pl df tx kp rs  hwf hIR) (cwV 0 hts gL_law_X3_place rfl rfl rfl (by decide +kernel) ⟨Nat.le_of_ble_eq_true rfl, Nat.le_of_ble_eq_true rfl⟩) gK_ok hK hWR (wd_recv (ci := 3) hK.1 hWR rfl hoR) hS hA rfl hl.1 rfl (Nat.le_of_ble_eq_true rfl) dL_law_178 ⟨by show cells + 0 ≤ 600000; omega, by show slots + 0 ≤ 7302250; omega⟩ rfl rfl hWC (wd_sep hd) (fun r2 wR1 H locs hp2 hWR hWC hd hS => ?_)
  refine lv_icmp_eq (tgt := 1054) hx hb dL_law_181 (by decide) (fun hq => ?_) (fun hq => ?_)
  · exact W.widen (k := cells + 2) (n := slots + 242) (by omega) (by omega) (kk _ _ _ _ _ ⟨hwf, hp1.2, hp2.2, hWC, hWR, wd_sep hd, hS⟩)
  · exact absurd (hp1.1.trans hp2.1.symm) hq
set_option maxHeartbeats 4000000 in
set_option maxRecDepth 100000 in
theorem lw_c_point {p : Program} {l : Launch} {e : Env} {s : State} {m : MethodId} {below : List Frame} {meth : Method} {c : Code} {b L : Nat} {xs : Nat → Int32} {H : Heap} {locs : List Loc} {cells slots : Nat} {Q : State → Prop} {ls : Array Slot} {D : va_G} {cI cT : ClassId} {o mm i : Nat} {S : Sg} {wC wR : Wd} (hL : L ≤ 3072) (C0 : lw_At p s m meth c b L xs) (hK : gK D cI cT s) (hJ : lw_J D cI cT s o mm S wC wR H locs) (hi : i + 6 ≤ L) (hc : cells + 2 ≤ 600000) (hs : slots + 242 ≤ 7302250) (hl : lv_has ls 4 [(0, .ref b), (1, .ref o), (2, .ref mm), (3, .int (nI i))])
    (kk : ∀ (S : Sg) (wC wR : Wd) (H : Heap) (locs : List Loc), lw_J D cI cT s o mm S wC wR H locs → W p l e room_1 s m #[Value.ref b] below meth c H locs (cells + 2) (slots + 242) Q (F0 m 1054 ls [])) : W p l e room_1 s m #[Value.ref b] below meth c H locs cells slots Q (F0 m 186 ls []) := by
  obtain ⟨hx, hb, hr, hml, hown, hts0, hX, hbl, hlocks, hgv⟩ := id C0
  have hown : s.vm.findClass RL = some m.cls := hown
  have hts : ∀ w ∈ wsL_law, w.before #[Value.ref b] s = true := fun w h => hts0 w (wsL_law_in w h)
  have hA : ∀ q, s.heap.size ≤ q → lw_A s q := fun _ h => h
  obtain ⟨cd, pl, df, tx, kp, rs⟩ := S
  obtain ⟨hwf, hIC, hIR, hWC, hWR, hd, hS⟩ := hJ
  obtain ⟨fC, hoC⟩ := hIC.recv
  obtain ⟨fR, hoR⟩ := hIR.recv
  refine lv_aload_n hx hb dL_law_186 rfl (lv_at hl 1 rfl) ?_
  refine lw_ld (j := 1) C0 hS hl hL (by omega) rfl dL_law_187 dL_law_188 dL_law_189 dL_law_190 dL_law_191 ?_
  refine wd_callVi2 (As := [.int (xs (i + 1))]) (rest := []) (c2 := cells) (s2 := slots) ⟨hx, hb, hml, hown, hts⟩ (k_X2_point l D cI cT wC _ o cd pl df tx kp rs (xs (i + 1)) hwf hIC) (cwV 1 hts gL_law_X2_point rfl rfl rfl (by decide +kernel) ⟨Nat.le_of_ble_eq_true rfl, Nat.le_of_ble_eq_true rfl⟩) gK_ok hK hWC (wd_recv (ci := 2) hK.1 hWC rfl hoC) hS hA rfl hl.1 rfl (Nat.le_of_ble_eq_true rfl) dL_law_192 ⟨by show cells + 0 ≤ 600000; omega, by show slots + 0 ≤ 7302250; omega⟩ rfl rfl hWR hd (fun r1 wC1 H locs hp1 hWC hWR hd hS => ?_)
  refine lv_aload_n hx hb dL_law_195 rfl (lv_at hl 2 rfl) ?_
  refine lw_ld (j := 1) C0 hS hl hL (by omega) rfl dL_law_196 dL_law_197 dL_law_198 dL_law_199 dL_law_200 ?_
  refine wd_callVi2 (As := [.int (xs (i + 1))]) (rest := [.int r1]) (c2 := cells) (s2 := slots) ⟨hx, hb, hml, hown, hts⟩ (k_X3_point l D cI cT wR _ mm cd pl df tx kp rs (xs (i + 1)) hwf hIR) (cwV 1 hts gL_law_X3_point rfl rfl rfl (by decide +kernel) ⟨Nat.le_of_ble_eq_true rfl, Nat.le_of_ble_eq_true rfl⟩) gK_ok hK hWR (wd_recv (ci := 3) hK.1 hWR rfl hoR) hS hA rfl hl.1 rfl (Nat.le_of_ble_eq_true rfl) dL_law_201 ⟨by show cells + 0 ≤ 600000; omega, by show slots + 0 ≤ 7302250; omega⟩ rfl rfl hWC (wd_sep hd) (fun r2 wR1 H locs hp2 hWR hWC hd hS => ?_)
  refine lv_icmp_eq (tgt := 1054) hx hb dL_law_204 (by decide) (fun hq => ?_) (fun hq => ?_)
  · exact W.widen (k := cells + 2) (n := slots + 242) (by omega) (by omega) (kk _ _ _ _ _ ⟨(wf_point hwf _), hp1.2, hp2.2, hWC, hWR, wd_sep hd, hS⟩)
  · exact absurd (hp1.1.trans hp2.1.symm) hq
set_option maxHeartbeats 4000000 in
set_option maxRecDepth 100000 in
theorem lw_c_unit {p : Program} {l : Launch} {e : Env} {s : State} {m : MethodId} {below : List Frame} {meth : Method} {c : Code} {b L : Nat} {xs : Nat → Int32} {H : Heap} {locs : List Loc} {cells slots : Nat} {Q : State → Prop} {ls : Array Slot} {D : va_G} {cI cT : ClassId} {o mm i : Nat} {S : Sg} {wC wR : Wd} (hL : L ≤ 3072) (C0 : lw_At p s m meth c b L xs) (hK : gK D cI cT s) (hJ : lw_J D cI cT s o mm S wC wR H locs) (hi : i + 6 ≤ L) (hc : cells + 2 ≤ 600000) (hs : slots + 242 ≤ 7302250) (hl : lv_has ls 4 [(0, .ref b), (1, .ref o), (2, .ref mm), (3, .int (nI i))])
    (kk : ∀ (S : Sg) (wC wR : Wd) (H : Heap) (locs : List Loc), lw_J D cI cT s o mm S wC wR H locs → W p l e room_1 s m #[Value.ref b] below meth c H locs (cells + 2) (slots + 242) Q (F0 m 1054 ls [])) : W p l e room_1 s m #[Value.ref b] below meth c H locs cells slots Q (F0 m 209 ls []) := by
  obtain ⟨hx, hb, hr, hml, hown, hts0, hX, hbl, hlocks, hgv⟩ := id C0
  have hown : s.vm.findClass RL = some m.cls := hown
  have hts : ∀ w ∈ wsL_law, w.before #[Value.ref b] s = true := fun w h => hts0 w (wsL_law_in w h)
  have hA : ∀ q, s.heap.size ≤ q → lw_A s q := fun _ h => h
  obtain ⟨cd, pl, df, tx, kp, rs⟩ := S
  obtain ⟨hwf, hIC, hIR, hWC, hWR, hd, hS⟩ := hJ
  obtain ⟨fC, hoC⟩ := hIC.recv
  obtain ⟨fR, hoR⟩ := hIR.recv
  refine lv_aload_n hx hb dL_law_209 rfl (lv_at hl 1 rfl) ?_
  refine lw_ld (j := 1) C0 hS hl hL (by omega) rfl dL_law_210 dL_law_211 dL_law_212 dL_law_213 dL_law_214 ?_
  refine wd_callVi2 (As := [.int (xs (i + 1))]) (rest := []) (c2 := cells) (s2 := slots) ⟨hx, hb, hml, hown, hts⟩ (k_X2_unit l D cI cT wC _ o cd pl df tx kp rs (xs (i + 1)) hwf hIC) (cwV 1 hts gL_law_X2_unit rfl rfl rfl (by decide +kernel) ⟨Nat.le_of_ble_eq_true rfl, Nat.le_of_ble_eq_true rfl⟩) gK_ok hK hWC (wd_recv (ci := 2) hK.1 hWC rfl hoC) hS hA rfl hl.1 rfl (Nat.le_of_ble_eq_true rfl) dL_law_215 ⟨by show cells + 0 ≤ 600000; omega, by show slots + 0 ≤ 7302250; omega⟩ rfl rfl hWR hd (fun r1 wC1 H locs hp1 hWC hWR hd hS => ?_)
  refine lv_aload_n hx hb dL_law_218 rfl (lv_at hl 2 rfl) ?_
  refine lw_ld (j := 1) C0 hS hl hL (by omega) rfl dL_law_219 dL_law_220 dL_law_221 dL_law_222 dL_law_223 ?_
  refine wd_callVi2 (As := [.int (xs (i + 1))]) (rest := [.int r1]) (c2 := cells) (s2 := slots) ⟨hx, hb, hml, hown, hts⟩ (k_X3_unit l D cI cT wR _ mm cd pl df tx kp rs (xs (i + 1)) hwf hIR) (cwV 1 hts gL_law_X3_unit rfl rfl rfl (by decide +kernel) ⟨Nat.le_of_ble_eq_true rfl, Nat.le_of_ble_eq_true rfl⟩) gK_ok hK hWR (wd_recv (ci := 3) hK.1 hWR rfl hoR) hS hA rfl hl.1 rfl (Nat.le_of_ble_eq_true rfl) dL_law_224 ⟨by show cells + 0 ≤ 600000; omega, by show slots + 0 ≤ 7302250; omega⟩ rfl rfl hWC (wd_sep hd) (fun r2 wR1 H locs hp2 hWR hWC hd hS => ?_)
  refine lv_icmp_eq (tgt := 1054) hx hb dL_law_227 (by decide) (fun hq => ?_) (fun hq => ?_)
  · exact W.widen (k := cells + 2) (n := slots + 242) (by omega) (by omega) (kk _ _ _ _ _ ⟨(wf_unit hwf _), hp1.2, hp2.2, hWC, hWR, wd_sep hd, hS⟩)
  · exact absurd (hp1.1.trans hp2.1.symm) hq
set_option maxHeartbeats 4000000 in
set_option maxRecDepth 100000 in
theorem lw_c_fresh {p : Program} {l : Launch} {e : Env} {s : State} {m : MethodId} {below : List Frame} {meth : Method} {c : Code} {b L : Nat} {xs : Nat → Int32} {H : Heap} {locs : List Loc} {cells slots : Nat} {Q : State → Prop} {ls : Array Slot} {D : va_G} {cI cT : ClassId} {o mm i : Nat} {S : Sg} {wC wR : Wd} (hL : L ≤ 3072) (C0 : lw_At p s m meth c b L xs) (hK : gK D cI cT s) (hJ : lw_J D cI cT s o mm S wC wR H locs) (hi : i + 6 ≤ L) (hc : cells + 2 ≤ 600000) (hs : slots + 242 ≤ 7302250) (hl : lv_has ls 4 [(0, .ref b), (1, .ref o), (2, .ref mm), (3, .int (nI i))])
    (kk : ∀ (S : Sg) (wC wR : Wd) (H : Heap) (locs : List Loc), lw_J D cI cT s o mm S wC wR H locs → W p l e room_1 s m #[Value.ref b] below meth c H locs (cells + 2) (slots + 242) Q (F0 m 1054 ls [])) : W p l e room_1 s m #[Value.ref b] below meth c H locs cells slots Q (F0 m 232 ls []) := by
  obtain ⟨hx, hb, hr, hml, hown, hts0, hX, hbl, hlocks, hgv⟩ := id C0
  have hown : s.vm.findClass RL = some m.cls := hown
  have hts : ∀ w ∈ wsL_law, w.before #[Value.ref b] s = true := fun w h => hts0 w (wsL_law_in w h)
  have hA : ∀ q, s.heap.size ≤ q → lw_A s q := fun _ h => h
  obtain ⟨cd, pl, df, tx, kp, rs⟩ := S
  obtain ⟨hwf, hIC, hIR, hWC, hWR, hd, hS⟩ := hJ
  obtain ⟨fC, hoC⟩ := hIC.recv
  obtain ⟨fR, hoR⟩ := hIR.recv
  refine lv_aload_n hx hb dL_law_232 rfl (lv_at hl 1 rfl) ?_
  refine wd_callVi2 (As := []) (rest := []) (c2 := cells) (s2 := slots) ⟨hx, hb, hml, hown, hts⟩ (k_X2_fresh l D cI cT wC _ o cd pl df tx kp rs  hwf hIC) (cwV 0 hts gL_law_X2_fresh rfl rfl rfl (by decide +kernel) ⟨Nat.le_of_ble_eq_true rfl, Nat.le_of_ble_eq_true rfl⟩) gK_ok hK hWC (wd_recv (ci := 2) hK.1 hWC rfl hoC) hS hA rfl hl.1 rfl (Nat.le_of_ble_eq_true rfl) dL_law_233 ⟨by show cells + 0 ≤ 600000; omega, by show slots + 0 ≤ 7302250; omega⟩ rfl rfl hWR hd (fun r1 wC1 H locs hp1 hWC hWR hd hS => ?_)
  refine lv_aload_n hx hb dL_law_236 rfl (lv_at hl 2 rfl) ?_
  refine wd_callVi2 (As := []) (rest := [.int r1]) (c2 := cells) (s2 := slots) ⟨hx, hb, hml, hown, hts⟩ (k_X3_fresh l D cI cT wR _ mm cd pl df tx kp rs  hwf hIR) (cwV 0 hts gL_law_X3_fresh rfl rfl rfl (by decide +kernel) ⟨Nat.le_of_ble_eq_true rfl, Nat.le_of_ble_eq_true rfl⟩) gK_ok hK hWR (wd_recv (ci := 3) hK.1 hWR rfl hoR) hS hA rfl hl.1 rfl (Nat.le_of_ble_eq_true rfl) dL_law_237 ⟨by show cells + 0 ≤ 600000; omega, by show slots + 0 ≤ 7302250; omega⟩ rfl rfl hWC (wd_sep hd) (fun r2 wR1 H locs hp2 hWR hWC hd hS => ?_)
  refine lv_icmp_eq (tgt := 1054) hx hb dL_law_240 (by decide) (fun hq => ?_) (fun hq => ?_)
  · exact W.widen (k := cells + 2) (n := slots + 242) (by omega) (by omega) (kk _ _ _ _ _ ⟨(wf_fresh hwf), hp1.2, hp2.2, hWC, hWR, wd_sep hd, hS⟩)
  · exact absurd (hp1.1.trans hp2.1.symm) hq
set_option maxHeartbeats 4000000 in
set_option maxRecDepth 100000 in
theorem lw_c_lay {p : Program} {l : Launch} {e : Env} {s : State} {m : MethodId} {below : List Frame} {meth : Method} {c : Code} {b L : Nat} {xs : Nat → Int32} {H : Heap} {locs : List Loc} {cells slots : Nat} {Q : State → Prop} {ls : Array Slot} {D : va_G} {cI cT : ClassId} {o mm i : Nat} {S : Sg} {wC wR : Wd} (hL : L ≤ 3072) (C0 : lw_At p s m meth c b L xs) (hK : gK D cI cT s) (hJ : lw_J D cI cT s o mm S wC wR H locs) (hi : i + 6 ≤ L) (hc : cells + 2 ≤ 600000) (hs : slots + 242 ≤ 7302250) (hl : lv_has ls 4 [(0, .ref b), (1, .ref o), (2, .ref mm), (3, .int (nI i))])
    (kk : ∀ (S : Sg) (wC wR : Wd) (H : Heap) (locs : List Loc), lw_J D cI cT s o mm S wC wR H locs → W p l e room_1 s m #[Value.ref b] below meth c H locs (cells + 2) (slots + 242) Q (F0 m 1054 ls [])) : W p l e room_1 s m #[Value.ref b] below meth c H locs cells slots Q (F0 m 245 ls []) := by
  obtain ⟨hx, hb, hr, hml, hown, hts0, hX, hbl, hlocks, hgv⟩ := id C0
  have hown : s.vm.findClass RL = some m.cls := hown
  have hts : ∀ w ∈ wsL_law, w.before #[Value.ref b] s = true := fun w h => hts0 w (wsL_law_in w h)
  have hA : ∀ q, s.heap.size ≤ q → lw_A s q := fun _ h => h
  obtain ⟨cd, pl, df, tx, kp, rs⟩ := S
  obtain ⟨hwf, hIC, hIR, hWC, hWR, hd, hS⟩ := hJ
  obtain ⟨fC, hoC⟩ := hIC.recv
  obtain ⟨fR, hoR⟩ := hIR.recv
  refine lv_aload_n hx hb dL_law_245 rfl (lv_at hl 1 rfl) ?_
  refine lw_ld (j := 1) C0 hS hl hL (by omega) rfl dL_law_246 dL_law_247 dL_law_248 dL_law_249 dL_law_250 ?_
  refine lw_ld (j := 2) C0 hS hl hL (by omega) rfl dL_law_251 dL_law_252 dL_law_253 dL_law_254 dL_law_255 ?_
  refine wd_callVi2 (As := [.int (xs (i + 1)), .int (xs (i + 2))]) (rest := []) (c2 := cells + 2) (s2 := slots + 242) ⟨hx, hb, hml, hown, hts⟩ (k_X2_lay l D cI cT wC _ o cd pl df tx kp rs (xs (i + 1)) (xs (i + 2)) hwf hIC) (cwV 2 hts gL_law_X2_lay rfl rfl rfl (by decide +kernel) ⟨Nat.le_of_ble_eq_true rfl, Nat.le_of_ble_eq_true rfl⟩) gK_ok hK hWC (wd_recv (ci := 2) hK.1 hWC rfl hoC) hS hA rfl hl.1 rfl (Nat.le_of_ble_eq_true rfl) dL_law_256 ⟨by show cells + 2 ≤ 600000; omega, by show slots + 242 ≤ 7302250; omega⟩ rfl rfl hWR hd (fun r1 wC1 H locs hp1 hWC hWR hd hS => ?_)
  refine lv_aload_n hx hb dL_law_259 rfl (lv_at hl 2 rfl) ?_
  refine lw_ld (j := 1) C0 hS hl hL (by omega) rfl dL_law_260 dL_law_261 dL_law_262 dL_law_263 dL_law_264 ?_
  refine lw_ld (j := 2) C0 hS hl hL (by omega) rfl dL_law_265 dL_law_266 dL_law_267 dL_law_268 dL_law_269 ?_
  refine wd_callVi2 (As := [.int (xs (i + 1)), .int (xs (i + 2))]) (rest := [.int r1]) (c2 := (cells + 2)) (s2 := (slots + 242)) ⟨hx, hb, hml, hown, hts⟩ (k_X3_lay l D cI cT wR _ mm cd pl df tx kp rs (xs (i + 1)) (xs (i + 2)) hwf hIR) (cwV 2 hts gL_law_X3_lay rfl rfl rfl (by decide +kernel) ⟨Nat.le_of_ble_eq_true rfl, Nat.le_of_ble_eq_true rfl⟩) gK_ok hK hWR (wd_recv (ci := 3) hK.1 hWR rfl hoR) hS hA rfl hl.1 rfl (Nat.le_of_ble_eq_true rfl) dL_law_270 ⟨by show (cells + 2) + 0 ≤ 600000; omega, by show (slots + 242) + 0 ≤ 7302250; omega⟩ rfl rfl hWC (wd_sep hd) (fun r2 wR1 H locs hp2 hWR hWC hd hS => ?_)
  refine lv_icmp_eq (tgt := 1054) hx hb dL_law_273 (by decide) (fun hq => ?_) (fun hq => ?_)
  · exact W.widen (k := cells + 2) (n := slots + 242) (by omega) (by omega) (kk _ _ _ _ _ ⟨(wf_lay hwf _ _), hp1.2, hp2.2, hWC, hWR, wd_sep hd, hS⟩)
  · exact absurd (hp1.1.trans hp2.1.symm) hq
set_option maxHeartbeats 4000000 in
set_option maxRecDepth 100000 in
theorem lw_c_share {p : Program} {l : Launch} {e : Env} {s : State} {m : MethodId} {below : List Frame} {meth : Method} {c : Code} {b L : Nat} {xs : Nat → Int32} {H : Heap} {locs : List Loc} {cells slots : Nat} {Q : State → Prop} {ls : Array Slot} {D : va_G} {cI cT : ClassId} {o mm i : Nat} {S : Sg} {wC wR : Wd} (hL : L ≤ 3072) (C0 : lw_At p s m meth c b L xs) (hK : gK D cI cT s) (hJ : lw_J D cI cT s o mm S wC wR H locs) (hi : i + 6 ≤ L) (hc : cells + 2 ≤ 600000) (hs : slots + 242 ≤ 7302250) (hl : lv_has ls 4 [(0, .ref b), (1, .ref o), (2, .ref mm), (3, .int (nI i))])
    (kk : ∀ (S : Sg) (wC wR : Wd) (H : Heap) (locs : List Loc), lw_J D cI cT s o mm S wC wR H locs → W p l e room_1 s m #[Value.ref b] below meth c H locs (cells + 2) (slots + 242) Q (F0 m 1054 ls [])) : W p l e room_1 s m #[Value.ref b] below meth c H locs cells slots Q (F0 m 278 ls []) := by
  obtain ⟨hx, hb, hr, hml, hown, hts0, hX, hbl, hlocks, hgv⟩ := id C0
  have hown : s.vm.findClass RL = some m.cls := hown
  have hts : ∀ w ∈ wsL_law, w.before #[Value.ref b] s = true := fun w h => hts0 w (wsL_law_in w h)
  have hA : ∀ q, s.heap.size ≤ q → lw_A s q := fun _ h => h
  obtain ⟨cd, pl, df, tx, kp, rs⟩ := S
  obtain ⟨hwf, hIC, hIR, hWC, hWR, hd, hS⟩ := hJ
  obtain ⟨fC, hoC⟩ := hIC.recv
  obtain ⟨fR, hoR⟩ := hIR.recv
  refine lv_aload_n hx hb dL_law_278 rfl (lv_at hl 1 rfl) ?_
  refine lw_ld (j := 1) C0 hS hl hL (by omega) rfl dL_law_279 dL_law_280 dL_law_281 dL_law_282 dL_law_283 ?_
  refine lw_ld (j := 2) C0 hS hl hL (by omega) rfl dL_law_284 dL_law_285 dL_law_286 dL_law_287 dL_law_288 ?_
  refine wd_callVi2 (As := [.int (xs (i + 1)), .int (xs (i + 2))]) (rest := []) (c2 := cells) (s2 := slots) ⟨hx, hb, hml, hown, hts⟩ (k_X2_share l D cI cT wC _ o cd pl df tx kp rs (xs (i + 1)) (xs (i + 2)) hwf hIC) (cwV 2 hts gL_law_X2_share rfl rfl rfl (by decide +kernel) ⟨Nat.le_of_ble_eq_true rfl, Nat.le_of_ble_eq_true rfl⟩) gK_ok hK hWC (wd_recv (ci := 2) hK.1 hWC rfl hoC) hS hA rfl hl.1 rfl (Nat.le_of_ble_eq_true rfl) dL_law_289 ⟨by show cells + 0 ≤ 600000; omega, by show slots + 0 ≤ 7302250; omega⟩ rfl rfl hWR hd (fun r1 wC1 H locs hp1 hWC hWR hd hS => ?_)
  refine lv_aload_n hx hb dL_law_292 rfl (lv_at hl 2 rfl) ?_
  refine lw_ld (j := 1) C0 hS hl hL (by omega) rfl dL_law_293 dL_law_294 dL_law_295 dL_law_296 dL_law_297 ?_
  refine lw_ld (j := 2) C0 hS hl hL (by omega) rfl dL_law_298 dL_law_299 dL_law_300 dL_law_301 dL_law_302 ?_
  refine wd_callVi2 (As := [.int (xs (i + 1)), .int (xs (i + 2))]) (rest := [.int r1]) (c2 := cells) (s2 := slots) ⟨hx, hb, hml, hown, hts⟩ (k_X3_share l D cI cT wR _ mm cd pl df tx kp rs (xs (i + 1)) (xs (i + 2)) hwf hIR) (cwV 2 hts gL_law_X3_share rfl rfl rfl (by decide +kernel) ⟨Nat.le_of_ble_eq_true rfl, Nat.le_of_ble_eq_true rfl⟩) gK_ok hK hWR (wd_recv (ci := 3) hK.1 hWR rfl hoR) hS hA rfl hl.1 rfl (Nat.le_of_ble_eq_true rfl) dL_law_303 ⟨by show cells + 0 ≤ 600000; omega, by show slots + 0 ≤ 7302250; omega⟩ rfl rfl hWC (wd_sep hd) (fun r2 wR1 H locs hp2 hWR hWC hd hS => ?_)
  refine lv_icmp_eq (tgt := 1054) hx hb dL_law_306 (by decide) (fun hq => ?_) (fun hq => ?_)
  · exact W.widen (k := cells + 2) (n := slots + 242) (by omega) (by omega) (kk _ _ _ _ _ ⟨(wf_share hwf _ _), hp1.2, hp2.2, hWC, hWR, wd_sep hd, hS⟩)
  · exact absurd (hp1.1.trans hp2.1.symm) hq
set_option maxHeartbeats 4000000 in
set_option maxRecDepth 100000 in
theorem lw_c_nothing {p : Program} {l : Launch} {e : Env} {s : State} {m : MethodId} {below : List Frame} {meth : Method} {c : Code} {b L : Nat} {xs : Nat → Int32} {H : Heap} {locs : List Loc} {cells slots : Nat} {Q : State → Prop} {ls : Array Slot} {D : va_G} {cI cT : ClassId} {o mm i : Nat} {S : Sg} {wC wR : Wd} (hL : L ≤ 3072) (C0 : lw_At p s m meth c b L xs) (hK : gK D cI cT s) (hJ : lw_J D cI cT s o mm S wC wR H locs) (hi : i + 6 ≤ L) (hc : cells + 2 ≤ 600000) (hs : slots + 242 ≤ 7302250) (hl : lv_has ls 4 [(0, .ref b), (1, .ref o), (2, .ref mm), (3, .int (nI i))])
    (kk : ∀ (S : Sg) (wC wR : Wd) (H : Heap) (locs : List Loc), lw_J D cI cT s o mm S wC wR H locs → W p l e room_1 s m #[Value.ref b] below meth c H locs (cells + 2) (slots + 242) Q (F0 m 1054 ls [])) : W p l e room_1 s m #[Value.ref b] below meth c H locs cells slots Q (F0 m 311 ls []) := by
  obtain ⟨hx, hb, hr, hml, hown, hts0, hX, hbl, hlocks, hgv⟩ := id C0
  have hown : s.vm.findClass RL = some m.cls := hown
  have hts : ∀ w ∈ wsL_law, w.before #[Value.ref b] s = true := fun w h => hts0 w (wsL_law_in w h)
  have hA : ∀ q, s.heap.size ≤ q → lw_A s q := fun _ h => h
  obtain ⟨cd, pl, df, tx, kp, rs⟩ := S
  obtain ⟨hwf, hIC, hIR, hWC, hWR, hd, hS⟩ := hJ
  obtain ⟨fC, hoC⟩ := hIC.recv
  obtain ⟨fR, hoR⟩ := hIR.recv
  refine lv_aload_n hx hb dL_law_311 rfl (lv_at hl 1 rfl) ?_
  refine lw_ld (j := 1) C0 hS hl hL (by omega) rfl dL_law_312 dL_law_313 dL_law_314 dL_law_315 dL_law_316 ?_
  refine wd_callVi2 (As := [.int (xs (i + 1))]) (rest := []) (c2 := cells) (s2 := slots) ⟨hx, hb, hml, hown, hts⟩ (k_X2_nothing l D cI cT wC _ o cd pl df tx kp rs (xs (i + 1)) hwf hIC) (cwV 1 hts gL_law_X2_nothing rfl rfl rfl (by decide +kernel) ⟨Nat.le_of_ble_eq_true rfl, Nat.le_of_ble_eq_true rfl⟩) gK_ok hK hWC (wd_recv (ci := 2) hK.1 hWC rfl hoC) hS hA rfl hl.1 rfl (Nat.le_of_ble_eq_true rfl) dL_law_317 ⟨by show cells + 0 ≤ 600000; omega, by show slots + 0 ≤ 7302250; omega⟩ rfl rfl hWR hd (fun r1 wC1 H locs hp1 hWC hWR hd hS => ?_)
  refine lv_aload_n hx hb dL_law_320 rfl (lv_at hl 2 rfl) ?_
  refine lw_ld (j := 1) C0 hS hl hL (by omega) rfl dL_law_321 dL_law_322 dL_law_323 dL_law_324 dL_law_325 ?_
  refine wd_callVi2 (As := [.int (xs (i + 1))]) (rest := [.int r1]) (c2 := cells) (s2 := slots) ⟨hx, hb, hml, hown, hts⟩ (k_X3_nothing l D cI cT wR _ mm cd pl df tx kp rs (xs (i + 1)) hwf hIR) (cwV 1 hts gL_law_X3_nothing rfl rfl rfl (by decide +kernel) ⟨Nat.le_of_ble_eq_true rfl, Nat.le_of_ble_eq_true rfl⟩) gK_ok hK hWR (wd_recv (ci := 3) hK.1 hWR rfl hoR) hS hA rfl hl.1 rfl (Nat.le_of_ble_eq_true rfl) dL_law_326 ⟨by show cells + 0 ≤ 600000; omega, by show slots + 0 ≤ 7302250; omega⟩ rfl rfl hWC (wd_sep hd) (fun r2 wR1 H locs hp2 hWR hWC hd hS => ?_)
  refine lv_icmp_eq (tgt := 1054) hx hb dL_law_329 (by decide) (fun hq => ?_) (fun hq => ?_)
  · exact W.widen (k := cells + 2) (n := slots + 242) (by omega) (by omega) (kk _ _ _ _ _ ⟨(wf_nothing hwf _), hp1.2, hp2.2, hWC, hWR, wd_sep hd, hS⟩)
  · exact absurd (hp1.1.trans hp2.1.symm) hq
set_option maxHeartbeats 4000000 in
set_option maxRecDepth 100000 in
theorem lw_c_sort {p : Program} {l : Launch} {e : Env} {s : State} {m : MethodId} {below : List Frame} {meth : Method} {c : Code} {b L : Nat} {xs : Nat → Int32} {H : Heap} {locs : List Loc} {cells slots : Nat} {Q : State → Prop} {ls : Array Slot} {D : va_G} {cI cT : ClassId} {o mm i : Nat} {S : Sg} {wC wR : Wd} (hL : L ≤ 3072) (C0 : lw_At p s m meth c b L xs) (hK : gK D cI cT s) (hJ : lw_J D cI cT s o mm S wC wR H locs) (hi : i + 6 ≤ L) (hc : cells + 2 ≤ 600000) (hs : slots + 242 ≤ 7302250) (hl : lv_has ls 4 [(0, .ref b), (1, .ref o), (2, .ref mm), (3, .int (nI i))])
    (kk : ∀ (S : Sg) (wC wR : Wd) (H : Heap) (locs : List Loc), lw_J D cI cT s o mm S wC wR H locs → W p l e room_1 s m #[Value.ref b] below meth c H locs (cells + 2) (slots + 242) Q (F0 m 1054 ls [])) : W p l e room_1 s m #[Value.ref b] below meth c H locs cells slots Q (F0 m 334 ls []) := by
  obtain ⟨hx, hb, hr, hml, hown, hts0, hX, hbl, hlocks, hgv⟩ := id C0
  have hown : s.vm.findClass RL = some m.cls := hown
  have hts : ∀ w ∈ wsL_law, w.before #[Value.ref b] s = true := fun w h => hts0 w (wsL_law_in w h)
  have hA : ∀ q, s.heap.size ≤ q → lw_A s q := fun _ h => h
  obtain ⟨cd, pl, df, tx, kp, rs⟩ := S
  obtain ⟨hwf, hIC, hIR, hWC, hWR, hd, hS⟩ := hJ
  obtain ⟨fC, hoC⟩ := hIC.recv
  obtain ⟨fR, hoR⟩ := hIR.recv
  refine lv_aload_n hx hb dL_law_334 rfl (lv_at hl 1 rfl) ?_
  refine lw_ld (j := 1) C0 hS hl hL (by omega) rfl dL_law_335 dL_law_336 dL_law_337 dL_law_338 dL_law_339 ?_
  refine wd_callVi2 (As := [.int (xs (i + 1))]) (rest := []) (c2 := cells) (s2 := slots) ⟨hx, hb, hml, hown, hts⟩ (k_X2_sort l D cI cT wC _ o cd pl df tx kp rs (xs (i + 1)) hwf hIC) (cwV 1 hts gL_law_X2_sort rfl rfl rfl (by decide +kernel) ⟨Nat.le_of_ble_eq_true rfl, Nat.le_of_ble_eq_true rfl⟩) gK_ok hK hWC (wd_recv (ci := 2) hK.1 hWC rfl hoC) hS hA rfl hl.1 rfl (Nat.le_of_ble_eq_true rfl) dL_law_340 ⟨by show cells + 0 ≤ 600000; omega, by show slots + 0 ≤ 7302250; omega⟩ rfl rfl hWR hd (fun r1 wC1 H locs hp1 hWC hWR hd hS => ?_)
  refine lv_aload_n hx hb dL_law_343 rfl (lv_at hl 2 rfl) ?_
  refine lw_ld (j := 1) C0 hS hl hL (by omega) rfl dL_law_344 dL_law_345 dL_law_346 dL_law_347 dL_law_348 ?_
  refine wd_callVi2 (As := [.int (xs (i + 1))]) (rest := [.int r1]) (c2 := cells) (s2 := slots) ⟨hx, hb, hml, hown, hts⟩ (k_X3_sort l D cI cT wR _ mm cd pl df tx kp rs (xs (i + 1)) hwf hIR) (cwV 1 hts gL_law_X3_sort rfl rfl rfl (by decide +kernel) ⟨Nat.le_of_ble_eq_true rfl, Nat.le_of_ble_eq_true rfl⟩) gK_ok hK hWR (wd_recv (ci := 3) hK.1 hWR rfl hoR) hS hA rfl hl.1 rfl (Nat.le_of_ble_eq_true rfl) dL_law_349 ⟨by show cells + 0 ≤ 600000; omega, by show slots + 0 ≤ 7302250; omega⟩ rfl rfl hWC (wd_sep hd) (fun r2 wR1 H locs hp2 hWR hWC hd hS => ?_)
  refine lv_icmp_eq (tgt := 1054) hx hb dL_law_352 (by decide) (fun hq => ?_) (fun hq => ?_)
  · exact W.widen (k := cells + 2) (n := slots + 242) (by omega) (by omega) (kk _ _ _ _ _ ⟨(wf_sort hwf _), hp1.2, hp2.2, hWC, hWR, wd_sep hd, hS⟩)
  · exact absurd (hp1.1.trans hp2.1.symm) hq
set_option maxHeartbeats 4000000 in
set_option maxRecDepth 100000 in
theorem lw_c_length {p : Program} {l : Launch} {e : Env} {s : State} {m : MethodId} {below : List Frame} {meth : Method} {c : Code} {b L : Nat} {xs : Nat → Int32} {H : Heap} {locs : List Loc} {cells slots : Nat} {Q : State → Prop} {ls : Array Slot} {D : va_G} {cI cT : ClassId} {o mm i : Nat} {S : Sg} {wC wR : Wd} (hL : L ≤ 3072) (C0 : lw_At p s m meth c b L xs) (hK : gK D cI cT s) (hJ : lw_J D cI cT s o mm S wC wR H locs) (hi : i + 6 ≤ L) (hc : cells + 2 ≤ 600000) (hs : slots + 242 ≤ 7302250) (hl : lv_has ls 4 [(0, .ref b), (1, .ref o), (2, .ref mm), (3, .int (nI i))])
    (kk : ∀ (S : Sg) (wC wR : Wd) (H : Heap) (locs : List Loc), lw_J D cI cT s o mm S wC wR H locs → W p l e room_1 s m #[Value.ref b] below meth c H locs (cells + 2) (slots + 242) Q (F0 m 1054 ls [])) : W p l e room_1 s m #[Value.ref b] below meth c H locs cells slots Q (F0 m 357 ls []) := by
  obtain ⟨hx, hb, hr, hml, hown, hts0, hX, hbl, hlocks, hgv⟩ := id C0
  have hown : s.vm.findClass RL = some m.cls := hown
  have hts : ∀ w ∈ wsL_law, w.before #[Value.ref b] s = true := fun w h => hts0 w (wsL_law_in w h)
  have hA : ∀ q, s.heap.size ≤ q → lw_A s q := fun _ h => h
  obtain ⟨cd, pl, df, tx, kp, rs⟩ := S
  obtain ⟨hwf, hIC, hIR, hWC, hWR, hd, hS⟩ := hJ
  obtain ⟨fC, hoC⟩ := hIC.recv
  obtain ⟨fR, hoR⟩ := hIR.recv
  refine lv_aload_n hx hb dL_law_357 rfl (lv_at hl 1 rfl) ?_
  refine lw_ld (j := 1) C0 hS hl hL (by omega) rfl dL_law_358 dL_law_359 dL_law_360 dL_law_361 dL_law_362 ?_
  refine wd_callVi2 (As := [.int (xs (i + 1))]) (rest := []) (c2 := cells) (s2 := slots) ⟨hx, hb, hml, hown, hts⟩ (k_X2_length l D cI cT wC _ o cd pl df tx kp rs (xs (i + 1)) hwf hIC) (cwV 1 hts gL_law_X2_length rfl rfl rfl (by decide +kernel) ⟨Nat.le_of_ble_eq_true rfl, Nat.le_of_ble_eq_true rfl⟩) gK_ok hK hWC (wd_recv (ci := 2) hK.1 hWC rfl hoC) hS hA rfl hl.1 rfl (Nat.le_of_ble_eq_true rfl) dL_law_363 ⟨by show cells + 0 ≤ 600000; omega, by show slots + 0 ≤ 7302250; omega⟩ rfl rfl hWR hd (fun r1 wC1 H locs hp1 hWC hWR hd hS => ?_)
  refine lv_aload_n hx hb dL_law_366 rfl (lv_at hl 2 rfl) ?_
  refine lw_ld (j := 1) C0 hS hl hL (by omega) rfl dL_law_367 dL_law_368 dL_law_369 dL_law_370 dL_law_371 ?_
  refine wd_callVi2 (As := [.int (xs (i + 1))]) (rest := [.int r1]) (c2 := cells) (s2 := slots) ⟨hx, hb, hml, hown, hts⟩ (k_X3_length l D cI cT wR _ mm cd pl df tx kp rs (xs (i + 1)) hwf hIR) (cwV 1 hts gL_law_X3_length rfl rfl rfl (by decide +kernel) ⟨Nat.le_of_ble_eq_true rfl, Nat.le_of_ble_eq_true rfl⟩) gK_ok hK hWR (wd_recv (ci := 3) hK.1 hWR rfl hoR) hS hA rfl hl.1 rfl (Nat.le_of_ble_eq_true rfl) dL_law_372 ⟨by show cells + 0 ≤ 600000; omega, by show slots + 0 ≤ 7302250; omega⟩ rfl rfl hWC (wd_sep hd) (fun r2 wR1 H locs hp2 hWR hWC hd hS => ?_)
  refine lv_icmp_eq (tgt := 1054) hx hb dL_law_375 (by decide) (fun hq => ?_) (fun hq => ?_)
  · exact W.widen (k := cells + 2) (n := slots + 242) (by omega) (by omega) (kk _ _ _ _ _ ⟨(wf_length hwf _), hp1.2, hp2.2, hWC, hWR, wd_sep hd, hS⟩)
  · exact absurd (hp1.1.trans hp2.1.symm) hq
set_option maxHeartbeats 4000000 in
set_option maxRecDepth 100000 in
theorem lw_c_points {p : Program} {l : Launch} {e : Env} {s : State} {m : MethodId} {below : List Frame} {meth : Method} {c : Code} {b L : Nat} {xs : Nat → Int32} {H : Heap} {locs : List Loc} {cells slots : Nat} {Q : State → Prop} {ls : Array Slot} {D : va_G} {cI cT : ClassId} {o mm i : Nat} {S : Sg} {wC wR : Wd} (hL : L ≤ 3072) (C0 : lw_At p s m meth c b L xs) (hK : gK D cI cT s) (hJ : lw_J D cI cT s o mm S wC wR H locs) (hi : i + 6 ≤ L) (hc : cells + 2 ≤ 600000) (hs : slots + 242 ≤ 7302250) (hl : lv_has ls 4 [(0, .ref b), (1, .ref o), (2, .ref mm), (3, .int (nI i))])
    (kk : ∀ (S : Sg) (wC wR : Wd) (H : Heap) (locs : List Loc), lw_J D cI cT s o mm S wC wR H locs → W p l e room_1 s m #[Value.ref b] below meth c H locs (cells + 2) (slots + 242) Q (F0 m 1054 ls [])) : W p l e room_1 s m #[Value.ref b] below meth c H locs cells slots Q (F0 m 380 ls []) := by
  obtain ⟨hx, hb, hr, hml, hown, hts0, hX, hbl, hlocks, hgv⟩ := id C0
  have hown : s.vm.findClass RL = some m.cls := hown
  have hts : ∀ w ∈ wsL_law, w.before #[Value.ref b] s = true := fun w h => hts0 w (wsL_law_in w h)
  have hA : ∀ q, s.heap.size ≤ q → lw_A s q := fun _ h => h
  obtain ⟨cd, pl, df, tx, kp, rs⟩ := S
  obtain ⟨hwf, hIC, hIR, hWC, hWR, hd, hS⟩ := hJ
  obtain ⟨fC, hoC⟩ := hIC.recv
  obtain ⟨fR, hoR⟩ := hIR.recv
  refine lv_aload_n hx hb dL_law_380 rfl (lv_at hl 1 rfl) ?_
  refine lw_ld (j := 1) C0 hS hl hL (by omega) rfl dL_law_381 dL_law_382 dL_law_383 dL_law_384 dL_law_385 ?_
  refine wd_callVi2 (As := [.int (xs (i + 1))]) (rest := []) (c2 := cells) (s2 := slots) ⟨hx, hb, hml, hown, hts⟩ (k_X2_points l D cI cT wC _ o cd pl df tx kp rs (xs (i + 1)) hwf hIC) (cwV 1 hts gL_law_X2_points rfl rfl rfl (by decide +kernel) ⟨Nat.le_of_ble_eq_true rfl, Nat.le_of_ble_eq_true rfl⟩) gK_ok hK hWC (wd_recv (ci := 2) hK.1 hWC rfl hoC) hS hA rfl hl.1 rfl (Nat.le_of_ble_eq_true rfl) dL_law_386 ⟨by show cells + 0 ≤ 600000; omega, by show slots + 0 ≤ 7302250; omega⟩ rfl rfl hWR hd (fun r1 wC1 H locs hp1 hWC hWR hd hS => ?_)
  refine lv_aload_n hx hb dL_law_389 rfl (lv_at hl 2 rfl) ?_
  refine lw_ld (j := 1) C0 hS hl hL (by omega) rfl dL_law_390 dL_law_391 dL_law_392 dL_law_393 dL_law_394 ?_
  refine wd_callVi2 (As := [.int (xs (i + 1))]) (rest := [.int r1]) (c2 := cells) (s2 := slots) ⟨hx, hb, hml, hown, hts⟩ (k_X3_points l D cI cT wR _ mm cd pl df tx kp rs (xs (i + 1)) hwf hIR) (cwV 1 hts gL_law_X3_points rfl rfl rfl (by decide +kernel) ⟨Nat.le_of_ble_eq_true rfl, Nat.le_of_ble_eq_true rfl⟩) gK_ok hK hWR (wd_recv (ci := 3) hK.1 hWR rfl hoR) hS hA rfl hl.1 rfl (Nat.le_of_ble_eq_true rfl) dL_law_395 ⟨by show cells + 0 ≤ 600000; omega, by show slots + 0 ≤ 7302250; omega⟩ rfl rfl hWC (wd_sep hd) (fun r2 wR1 H locs hp2 hWR hWC hd hS => ?_)
  refine lv_icmp_eq (tgt := 1054) hx hb dL_law_398 (by decide) (fun hq => ?_) (fun hq => ?_)
  · exact W.widen (k := cells + 2) (n := slots + 242) (by omega) (by omega) (kk _ _ _ _ _ ⟨(wf_points hwf _), hp1.2, hp2.2, hWC, hWR, wd_sep hd, hS⟩)
  · exact absurd (hp1.1.trans hp2.1.symm) hq
set_option maxHeartbeats 4000000 in
set_option maxRecDepth 100000 in
theorem lw_c_at {p : Program} {l : Launch} {e : Env} {s : State} {m : MethodId} {below : List Frame} {meth : Method} {c : Code} {b L : Nat} {xs : Nat → Int32} {H : Heap} {locs : List Loc} {cells slots : Nat} {Q : State → Prop} {ls : Array Slot} {D : va_G} {cI cT : ClassId} {o mm i : Nat} {S : Sg} {wC wR : Wd} (hL : L ≤ 3072) (C0 : lw_At p s m meth c b L xs) (hK : gK D cI cT s) (hJ : lw_J D cI cT s o mm S wC wR H locs) (hi : i + 6 ≤ L) (hc : cells + 2 ≤ 600000) (hs : slots + 242 ≤ 7302250) (hl : lv_has ls 4 [(0, .ref b), (1, .ref o), (2, .ref mm), (3, .int (nI i))])
    (kk : ∀ (S : Sg) (wC wR : Wd) (H : Heap) (locs : List Loc), lw_J D cI cT s o mm S wC wR H locs → W p l e room_1 s m #[Value.ref b] below meth c H locs (cells + 2) (slots + 242) Q (F0 m 1054 ls [])) : W p l e room_1 s m #[Value.ref b] below meth c H locs cells slots Q (F0 m 403 ls []) := by
  obtain ⟨hx, hb, hr, hml, hown, hts0, hX, hbl, hlocks, hgv⟩ := id C0
  have hown : s.vm.findClass RL = some m.cls := hown
  have hts : ∀ w ∈ wsL_law, w.before #[Value.ref b] s = true := fun w h => hts0 w (wsL_law_in w h)
  have hA : ∀ q, s.heap.size ≤ q → lw_A s q := fun _ h => h
  obtain ⟨cd, pl, df, tx, kp, rs⟩ := S
  obtain ⟨hwf, hIC, hIR, hWC, hWR, hd, hS⟩ := hJ
  obtain ⟨fC, hoC⟩ := hIC.recv
  obtain ⟨fR, hoR⟩ := hIR.recv
  refine lv_aload_n hx hb dL_law_403 rfl (lv_at hl 1 rfl) ?_
  refine lw_ld (j := 1) C0 hS hl hL (by omega) rfl dL_law_404 dL_law_405 dL_law_406 dL_law_407 dL_law_408 ?_
  refine lw_ld (j := 2) C0 hS hl hL (by omega) rfl dL_law_409 dL_law_410 dL_law_411 dL_law_412 dL_law_413 ?_
  refine wd_callVi2 (As := [.int (xs (i + 1)), .int (xs (i + 2))]) (rest := []) (c2 := cells) (s2 := slots) ⟨hx, hb, hml, hown, hts⟩ (k_X2_at l D cI cT wC _ o cd pl df tx kp rs (xs (i + 1)) (xs (i + 2)) hwf hIC) (cwV 2 hts gL_law_X2_at rfl rfl rfl (by decide +kernel) ⟨Nat.le_of_ble_eq_true rfl, Nat.le_of_ble_eq_true rfl⟩) gK_ok hK hWC (wd_recv (ci := 2) hK.1 hWC rfl hoC) hS hA rfl hl.1 rfl (Nat.le_of_ble_eq_true rfl) dL_law_414 ⟨by show cells + 0 ≤ 600000; omega, by show slots + 0 ≤ 7302250; omega⟩ rfl rfl hWR hd (fun r1 wC1 H locs hp1 hWC hWR hd hS => ?_)
  refine lv_aload_n hx hb dL_law_417 rfl (lv_at hl 2 rfl) ?_
  refine lw_ld (j := 1) C0 hS hl hL (by omega) rfl dL_law_418 dL_law_419 dL_law_420 dL_law_421 dL_law_422 ?_
  refine lw_ld (j := 2) C0 hS hl hL (by omega) rfl dL_law_423 dL_law_424 dL_law_425 dL_law_426 dL_law_427 ?_
  refine wd_callVi2 (As := [.int (xs (i + 1)), .int (xs (i + 2))]) (rest := [.int r1]) (c2 := cells) (s2 := slots) ⟨hx, hb, hml, hown, hts⟩ (k_X3_at l D cI cT wR _ mm cd pl df tx kp rs (xs (i + 1)) (xs (i + 2)) hwf hIR) (cwV 2 hts gL_law_X3_at rfl rfl rfl (by decide +kernel) ⟨Nat.le_of_ble_eq_true rfl, Nat.le_of_ble_eq_true rfl⟩) gK_ok hK hWR (wd_recv (ci := 3) hK.1 hWR rfl hoR) hS hA rfl hl.1 rfl (Nat.le_of_ble_eq_true rfl) dL_law_428 ⟨by show cells + 0 ≤ 600000; omega, by show slots + 0 ≤ 7302250; omega⟩ rfl rfl hWC (wd_sep hd) (fun r2 wR1 H locs hp2 hWR hWC hd hS => ?_)
  refine lv_icmp_eq (tgt := 1054) hx hb dL_law_431 (by decide) (fun hq => ?_) (fun hq => ?_)
  · exact W.widen (k := cells + 2) (n := slots + 242) (by omega) (by omega) (kk _ _ _ _ _ ⟨(wf_at hwf _ _), hp1.2, hp2.2, hWC, hWR, wd_sep hd, hS⟩)
  · exact absurd (hp1.1.trans hp2.1.symm) hq
set_option maxHeartbeats 4000000 in
set_option maxRecDepth 100000 in
theorem lw_c_pointAt {p : Program} {l : Launch} {e : Env} {s : State} {m : MethodId} {below : List Frame} {meth : Method} {c : Code} {b L : Nat} {xs : Nat → Int32} {H : Heap} {locs : List Loc} {cells slots : Nat} {Q : State → Prop} {ls : Array Slot} {D : va_G} {cI cT : ClassId} {o mm i : Nat} {S : Sg} {wC wR : Wd} (hL : L ≤ 3072) (C0 : lw_At p s m meth c b L xs) (hK : gK D cI cT s) (hJ : lw_J D cI cT s o mm S wC wR H locs) (hi : i + 6 ≤ L) (hc : cells + 2 ≤ 600000) (hs : slots + 242 ≤ 7302250) (hl : lv_has ls 4 [(0, .ref b), (1, .ref o), (2, .ref mm), (3, .int (nI i))])
    (kk : ∀ (S : Sg) (wC wR : Wd) (H : Heap) (locs : List Loc), lw_J D cI cT s o mm S wC wR H locs → W p l e room_1 s m #[Value.ref b] below meth c H locs (cells + 2) (slots + 242) Q (F0 m 1054 ls [])) : W p l e room_1 s m #[Value.ref b] below meth c H locs cells slots Q (F0 m 436 ls []) := by
  obtain ⟨hx, hb, hr, hml, hown, hts0, hX, hbl, hlocks, hgv⟩ := id C0
  have hown : s.vm.findClass RL = some m.cls := hown
  have hts : ∀ w ∈ wsL_law, w.before #[Value.ref b] s = true := fun w h => hts0 w (wsL_law_in w h)
  have hA : ∀ q, s.heap.size ≤ q → lw_A s q := fun _ h => h
  obtain ⟨cd, pl, df, tx, kp, rs⟩ := S
  obtain ⟨hwf, hIC, hIR, hWC, hWR, hd, hS⟩ := hJ
  obtain ⟨fC, hoC⟩ := hIC.recv
  obtain ⟨fR, hoR⟩ := hIR.recv
  refine lv_aload_n hx hb dL_law_436 rfl (lv_at hl 1 rfl) ?_
  refine lw_ld (j := 1) C0 hS hl hL (by omega) rfl dL_law_437 dL_law_438 dL_law_439 dL_law_440 dL_law_441 ?_
  refine lw_ld (j := 2) C0 hS hl hL (by omega) rfl dL_law_442 dL_law_443 dL_law_444 dL_law_445 dL_law_446 ?_
  refine wd_callVi2 (As := [.int (xs (i + 1)), .int (xs (i + 2))]) (rest := []) (c2 := cells) (s2 := slots) ⟨hx, hb, hml, hown, hts⟩ (k_X2_pointAt l D cI cT wC _ o cd pl df tx kp rs (xs (i + 1)) (xs (i + 2)) hwf hIC) (cwV 2 hts gL_law_X2_pointAt rfl rfl rfl (by decide +kernel) ⟨Nat.le_of_ble_eq_true rfl, Nat.le_of_ble_eq_true rfl⟩) gK_ok hK hWC (wd_recv (ci := 2) hK.1 hWC rfl hoC) hS hA rfl hl.1 rfl (Nat.le_of_ble_eq_true rfl) dL_law_447 ⟨by show cells + 0 ≤ 600000; omega, by show slots + 0 ≤ 7302250; omega⟩ rfl rfl hWR hd (fun r1 wC1 H locs hp1 hWC hWR hd hS => ?_)
  refine lv_aload_n hx hb dL_law_450 rfl (lv_at hl 2 rfl) ?_
  refine lw_ld (j := 1) C0 hS hl hL (by omega) rfl dL_law_451 dL_law_452 dL_law_453 dL_law_454 dL_law_455 ?_
  refine lw_ld (j := 2) C0 hS hl hL (by omega) rfl dL_law_456 dL_law_457 dL_law_458 dL_law_459 dL_law_460 ?_
  refine wd_callVi2 (As := [.int (xs (i + 1)), .int (xs (i + 2))]) (rest := [.int r1]) (c2 := cells) (s2 := slots) ⟨hx, hb, hml, hown, hts⟩ (k_X3_pointAt l D cI cT wR _ mm cd pl df tx kp rs (xs (i + 1)) (xs (i + 2)) hwf hIR) (cwV 2 hts gL_law_X3_pointAt rfl rfl rfl (by decide +kernel) ⟨Nat.le_of_ble_eq_true rfl, Nat.le_of_ble_eq_true rfl⟩) gK_ok hK hWR (wd_recv (ci := 3) hK.1 hWR rfl hoR) hS hA rfl hl.1 rfl (Nat.le_of_ble_eq_true rfl) dL_law_461 ⟨by show cells + 0 ≤ 600000; omega, by show slots + 0 ≤ 7302250; omega⟩ rfl rfl hWC (wd_sep hd) (fun r2 wR1 H locs hp2 hWR hWC hd hS => ?_)
  refine lv_icmp_eq (tgt := 1054) hx hb dL_law_464 (by decide) (fun hq => ?_) (fun hq => ?_)
  · exact W.widen (k := cells + 2) (n := slots + 242) (by omega) (by omega) (kk _ _ _ _ _ ⟨(wf_pointAt hwf _ _), hp1.2, hp2.2, hWC, hWR, wd_sep hd, hS⟩)
  · exact absurd (hp1.1.trans hp2.1.symm) hq
set_option maxHeartbeats 4000000 in
set_option maxRecDepth 100000 in
theorem lw_c_put {p : Program} {l : Launch} {e : Env} {s : State} {m : MethodId} {below : List Frame} {meth : Method} {c : Code} {b L : Nat} {xs : Nat → Int32} {H : Heap} {locs : List Loc} {cells slots : Nat} {Q : State → Prop} {ls : Array Slot} {D : va_G} {cI cT : ClassId} {o mm i : Nat} {S : Sg} {wC wR : Wd} (hL : L ≤ 3072) (C0 : lw_At p s m meth c b L xs) (hK : gK D cI cT s) (hJ : lw_J D cI cT s o mm S wC wR H locs) (hi : i + 6 ≤ L) (hc : cells + 2 ≤ 600000) (hs : slots + 242 ≤ 7302250) (hl : lv_has ls 4 [(0, .ref b), (1, .ref o), (2, .ref mm), (3, .int (nI i))])
    (kk : ∀ (S : Sg) (wC wR : Wd) (H : Heap) (locs : List Loc), lw_J D cI cT s o mm S wC wR H locs → W p l e room_1 s m #[Value.ref b] below meth c H locs (cells + 2) (slots + 242) Q (F0 m 1054 ls [])) : W p l e room_1 s m #[Value.ref b] below meth c H locs cells slots Q (F0 m 469 ls []) := by
  obtain ⟨hx, hb, hr, hml, hown, hts0, hX, hbl, hlocks, hgv⟩ := id C0
  have hown : s.vm.findClass RL = some m.cls := hown
  have hts : ∀ w ∈ wsL_law, w.before #[Value.ref b] s = true := fun w h => hts0 w (wsL_law_in w h)
  have hA : ∀ q, s.heap.size ≤ q → lw_A s q := fun _ h => h
  obtain ⟨cd, pl, df, tx, kp, rs⟩ := S
  obtain ⟨hwf, hIC, hIR, hWC, hWR, hd, hS⟩ := hJ
  obtain ⟨fC, hoC⟩ := hIC.recv
  obtain ⟨fR, hoR⟩ := hIR.recv
  refine lv_aload_n hx hb dL_law_469 rfl (lv_at hl 1 rfl) ?_
  refine lw_ld (j := 1) C0 hS hl hL (by omega) rfl dL_law_470 dL_law_471 dL_law_472 dL_law_473 dL_law_474 ?_
  refine lw_ld (j := 2) C0 hS hl hL (by omega) rfl dL_law_475 dL_law_476 dL_law_477 dL_law_478 dL_law_479 ?_
  refine lw_ld (j := 3) C0 hS hl hL (by omega) rfl dL_law_480 dL_law_481 dL_law_482 dL_law_483 dL_law_484 ?_
  refine wd_callVi2 (As := [.int (xs (i + 1)), .int (xs (i + 2)), .int (xs (i + 3))]) (rest := []) (c2 := cells) (s2 := slots) ⟨hx, hb, hml, hown, hts⟩ (k_X2_put l D cI cT wC _ o cd pl df tx kp rs (xs (i + 1)) (xs (i + 2)) (xs (i + 3)) hwf hIC) (cwV 3 hts gL_law_X2_put rfl rfl rfl (by decide +kernel) ⟨Nat.le_of_ble_eq_true rfl, Nat.le_of_ble_eq_true rfl⟩) gK_ok hK hWC (wd_recv (ci := 2) hK.1 hWC rfl hoC) hS hA rfl hl.1 rfl (Nat.le_of_ble_eq_true rfl) dL_law_485 ⟨by show cells + 0 ≤ 600000; omega, by show slots + 0 ≤ 7302250; omega⟩ rfl rfl hWR hd (fun r1 wC1 H locs hp1 hWC hWR hd hS => ?_)
  refine lv_aload_n hx hb dL_law_488 rfl (lv_at hl 2 rfl) ?_
  refine lw_ld (j := 1) C0 hS hl hL (by omega) rfl dL_law_489 dL_law_490 dL_law_491 dL_law_492 dL_law_493 ?_
  refine lw_ld (j := 2) C0 hS hl hL (by omega) rfl dL_law_494 dL_law_495 dL_law_496 dL_law_497 dL_law_498 ?_
  refine lw_ld (j := 3) C0 hS hl hL (by omega) rfl dL_law_499 dL_law_500 dL_law_501 dL_law_502 dL_law_503 ?_
  refine wd_callVi2 (As := [.int (xs (i + 1)), .int (xs (i + 2)), .int (xs (i + 3))]) (rest := [.int r1]) (c2 := cells) (s2 := slots) ⟨hx, hb, hml, hown, hts⟩ (k_X3_put l D cI cT wR _ mm cd pl df tx kp rs (xs (i + 1)) (xs (i + 2)) (xs (i + 3)) hwf hIR) (cwV 3 hts gL_law_X3_put rfl rfl rfl (by decide +kernel) ⟨Nat.le_of_ble_eq_true rfl, Nat.le_of_ble_eq_true rfl⟩) gK_ok hK hWR (wd_recv (ci := 3) hK.1 hWR rfl hoR) hS hA rfl hl.1 rfl (Nat.le_of_ble_eq_true rfl) dL_law_504 ⟨by show cells + 0 ≤ 600000; omega, by show slots + 0 ≤ 7302250; omega⟩ rfl rfl hWC (wd_sep hd) (fun r2 wR1 H locs hp2 hWR hWC hd hS => ?_)
  refine lv_icmp_eq (tgt := 1054) hx hb dL_law_507 (by decide) (fun hq => ?_) (fun hq => ?_)
  · exact W.widen (k := cells + 2) (n := slots + 242) (by omega) (by omega) (kk _ _ _ _ _ ⟨(wf_put hwf _ _ _), hp1.2, hp2.2, hWC, hWR, wd_sep hd, hS⟩)
  · exact absurd (hp1.1.trans hp2.1.symm) hq
