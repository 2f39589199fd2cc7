/-- a world with a new cell beside it: each by itself -/
theorem wd_sub {D : va_G} {cl : List vw_C} {A : Nat → Prop} {w w' : Wd} {H : Heap} (h : wd_P D cl A w H) (hs : ∀ q x, w' q = some x → w q = some x) : wd_P D cl A w' H := by
  obtain ⟨L, hL, hP, hD⟩ := h
  have hm : ∀ a, a ∈ L.filter (fun a => (w' a).isSome) ↔ w' a ≠ none := fun a => by
    rw [List.mem_filter, hL a]
    cases e : w' a with
    | none => simp
    | some x => simp [hs a x e]
  have hat : ∀ (k : Nat) (q : Nat × va_E), (va_pl (L.filter (fun a => (w' a).isSome)) (wd_f w'))[k]? = some q → ∃ j : Nat, (va_pl L (wd_f w))[j]? = some q := fun k q hk => by
    obtain ⟨h1, h2⟩ := va_pl_at hk
    have h3 := List.mem_of_getElem? h1
    obtain ⟨x, hx⟩ := Option.ne_none_iff_exists'.mp ((hm q.1).mp h3)
    obtain ⟨j, hj⟩ := wd_in hL (hs _ _ hx)
    refine ⟨j, ?_⟩
    rw [hj]
    have : wd_f w' q.1 = x := by simp [wd_f, hx]
    rw [show q = (q.1, q.2) from rfl, h2, this]
  refine ⟨L.filter (fun a => (w' a).isSome), hm, fun k q hk => ?_, fun i j p q hi hj he => ?_, fun k q hk => ?_⟩
  · obtain ⟨j, hj⟩ := hat k q hk
    exact hP j q hj
  · obtain ⟨h1, -⟩ := va_pl_at hi
    obtain ⟨h2, -⟩ := va_pl_at hj
    have hnd : L.Pairwise (fun a b => a ≠ b) := by
      rw [List.pairwise_iff_getElem]
      intro a b ha hb hab heq
      have h1 : (va_pl L (wd_f w))[a]? = some (L[a], wd_f w L[a]) := va_pl_mk (List.getElem?_eq_getElem ha)
      have h2 : (va_pl L (wd_f w))[b]? = some (L[b], wd_f w L[b]) := va_pl_mk (List.getElem?_eq_getElem hb)
      have := hD.1 a b _ _ h1 h2 heq
      omega
    have hnd2 := List.pairwise_iff_getElem.mp (hnd.filter (fun a => (w' a).isSome))
    obtain ⟨l1, e1⟩ := List.getElem?_eq_some_iff.mp h1
    obtain ⟨l2, e2⟩ := List.getElem?_eq_some_iff.mp h2
    rcases Nat.lt_trichotomy i j with g | g | g
    · exact absurd (by rw [e1, e2, he]) (hnd2 i j l1 l2 g)
    · exact g
    · exact absurd (by rw [e1, e2, he]) (hnd2 j i l2 l1 g)
  · obtain ⟨j, hj⟩ := hat k q hk
    exact hD.2 j q hj
theorem wd_part1 {D : va_G} {cl : List vw_C} {A : Nat → Prop} {w : Wd} {H : Heap} {q : Nat} {x : va_E} (hq : w q = none) (h : wd_P D cl A (wd_up w q x) H) : wd_P D cl A w H := wd_sub h (fun a y hy => by
  have : a ≠ q := fun e => by rw [e, hq] at hy; cases hy
  rw [wd_up_ne _ _ this]
  exact hy)
theorem wd_part2 {D : va_G} {cl : List vw_C} {A : Nat → Prop} {w : Wd} {H : Heap} {q : Nat} {x : va_E} (h : wd_P D cl A (wd_up w q x) H) : wd_P D cl A (wd_up (fun _ => none) q x) H := wd_sub h (fun a y hy => by
  by_cases e : a = q
  · subst e
    rw [wd_up_self] at hy ⊢
    exact hy
  · rw [wd_up_ne _ _ e] at hy
    cases hy)
theorem lw_known {s : State} {b : Nat} (hts : ∀ w ∈ lw_tbl, w.before #[Value.ref b] s = true) : ∃ (D : va_G) (cI cT : ClassId), gK D cI cT s := by
  obtain ⟨c0, iS0, hKn0⟩ := u_known (C := RX0) (T := TX0) (N := 2) (n := 2) hts inX0 (hts (.instantiable RX0 2) (by decide +kernel))
  obtain ⟨c1, iS1, hKn1⟩ := u_known (C := RX1) (T := TX1) (N := 2) (n := 2) hts inX1 (hts (.instantiable RX1 2) (by decide +kernel))
  obtain ⟨c2, iS2, hKn2⟩ := u_known (C := RX2) (T := TX2) (N := 8) (n := 8) hts inX2 (hts (.instantiable RX2 8) (by decide +kernel))
  obtain ⟨c3, iS3, hKn3⟩ := u_known (C := RX3) (T := TX3) (N := 18) (n := 18) hts inX3 (hts (.instantiable RX3 18) (by decide +kernel))
  obtain ⟨D, hKc⟩ : ∃ (D : va_G), ∀ (k : Nat) (q : vw_C), vwCl[k]? = some q → u_Kn s q.1 q.2.1 q.2.2 (D.1 k) (D.2 k) := by
    refine ⟨(fun k => if k = 0 then c0 else if k = 1 then c1 else if k = 2 then c2 else c3, fun k => if k = 0 then iS0 else if k = 1 then iS1 else if k = 2 then iS2 else iS3), ?_⟩
    intro k q hq
    match k, hq with
    | 0, hq => cases hq; exact hKn0
    | 1, hq => cases hq; exact hKn1
    | 2, hq => cases hq; exact hKn2
    | 3, hq => cases hq; exact hKn3
    | k + 4, hq => simp at hq
  obtain ⟨cI, kI, compI, f1, f2, f3⟩ := Cond.arrayClass_spec (hts (.arrayClass .int) (by decide +kernel))
  have hov := hts (.arrayOver (.object RX1)) (by decide +kernel)
  obtain ⟨compT, cT, kT, g1, g2, g3, g4, g5⟩ := Cond.arrayOver_spec hov
  refine ⟨D, cI, cT, ⟨hKc, fun k q hq => ?_⟩, va_AO.of hov, va_Nw.of rfl (hts (.methodLinkNest RX0 26 yX2_isInsidePair RX2) (by decide +kernel)), va_Nw.of rfl (hts (.methodLinkNest RX0 30 yX2_pairedPoint RX2) (by decide +kernel)), va_Nw.of rfl (hts (.castable "[I" "java/lang/Cloneable") (by decide +kernel))⟩
  match k, hq with
  | 0, hq => cases hq; exact ⟨fun N z => ⟨fun k h => (by cases h), kI, f2, compI, f3⟩, f1⟩
  | 1, hq => cases hq; exact ⟨fun N z => ⟨fun k h => (by cases h), kT, g3, compT, g4⟩, kT, compT, g3, g4, g1, g5⟩
  | k + 2, hq => simp at hq
theorem wd_none {D : va_G} {cl : List vw_C} {A : Nat → Prop} {H : Heap} : wd_P D cl A (fun _ => none) H := ⟨[], fun a => by simp, fun k q h => by simp [va_pl] at h, fun i j p q h => by simp [va_pl] at h, fun k q h => by simp [va_pl] at h⟩
set_option maxHeartbeats 4000000 in
set_option maxRecDepth 100000 in
/-- THE LAW, from its entry -/
theorem whole_start {p : Program} {e : Env} {s : State} {m : MethodId} {below : List Frame} {meth : Method} {c : Code} (l : Launch) {b L : Nat} {xs : Nat → Int32} (hL : L ≤ 3072) (C0 : lw_At p s m meth c b L xs) : W p l e room_1 s m #[Value.ref b] below meth c s.heap [] 0 0 (lw_Z below #[Value.ref b] s) (entryFrame m ([Value.ref b] : List Value).toArray 4) := by
  obtain ⟨hx, hb, hr, hml, hown, hts0, hX, hbl, hlocks, hgv⟩ := id C0
  have hown : s.vm.findClass RL = some m.cls := hown
  have hts : ∀ w ∈ wsL_law, w.before #[Value.ref b] s = true := fun w h => hts0 w (wsL_law_in w h)
  have hA : ∀ q : Nat, s.heap.size ≤ q → lw_A s q := fun _ h => h
  obtain ⟨D, cI, cT, hK⟩ := lw_known hts0
  have hS : va_S (lw_A s) s.heap s.heap [] := va_S.rf
  have hW0 : wd_P D vwCl (lw_A s) (fun _ => none) s.heap := wd_none
  have hl := lv_entry ([.ref b]) (n := 4) (Nat.le_of_ble_eq_true rfl)
  rw [lg_entry_eq]
  generalize (lg_sl ([.ref b]) ++ List.replicate (4 - (lg_sl ([.ref b])).length) Slot.unset).toArray = ls at hl ⊢
  have hl : lv_has ls 4 [(0, .ref b)] := hl
  refine wd_new (ci := 2) (fs := [.null, .null, .int 0, .null, .null, .null, .int 0, .int 0]) (C := RX2) (T := TX2) (N := 8) hx hb hts0 inX2 tyX2 tyX2_ok hown (hts0 (.classLink RL 7 RX2) (by decide +kernel)) (hts0 (.instantiable RX2 8) (by decide +kernel)) (hts0 (.initialized RX2) (by decide +kernel)) hK.1 hW0 hS hA rfl (fun j hj => by rcases (show j = 0 ∨ j = 1 ∨ j = 2 ∨ j = 3 ∨ j = 4 ∨ j = 5 ∨ j = 6 ∨ j = 7 by omega) with rfl | rfl | rfl | rfl | rfl | rfl | rfl | rfl <;> rfl) (Nat.le_of_ble_eq_true rfl) (Nat.le_of_ble_eq_true rfl) dL_law_0 (fun o H ho hW hS => ?_)
  refine lv_dup hx hb dL_law_3 rfl ?_
  refine wd_callIv (As := []) (rest := [.ref o]) (c2 := 9) (s2 := 756) ⟨hx, hb, hml, hown, hts⟩ (k_X2_init l D cI cT _ _ o (wd_up_self _ _ _)) (cwI 0 hts gL_law_X2_init rfl rfl rfl (hts0 (.initialized RX2) (by decide +kernel)) (hts0 (.methodLink RL 9 yX2_init) (by decide +kernel)) (hts0 (.instanceMethod yX2_init) (by decide +kernel)) rfl (by decide +kernel) ⟨Nat.le_of_ble_eq_true rfl, Nat.le_of_ble_eq_true rfl⟩) gK_ok hK hW hS hA rfl hl.1 rfl (Nat.le_of_ble_eq_true rfl) dL_law_4 ⟨Nat.le_of_ble_eq_true rfl, Nat.le_of_ble_eq_true rfl⟩ rfl rfl (fun wC H locs hIC hWC hz hS => ?_)
  refine lv_astore_n (lv' := [(1, .ref o), (0, .ref b)]) hx hb dL_law_7 rfl hl (by decide) rfl (fun ls hl => ?_)
  refine wd_new (ci := 3) (fs := [.null, .null, .int 0, .null, .null, .null, .null, .int 0, .int 0, .int 0, .null, .int 0, .null, .int 0, .null, .int 0, .int 0, .null]) (C := RX3) (T := TX3) (N := 18) hx hb hts0 inX3 tyX3 tyX3_ok hown (hts0 (.classLink RL 10 RX3) (by decide +kernel)) (hts0 (.instantiable RX3 18) (by decide +kernel)) (hts0 (.initialized RX3) (by decide +kernel)) hK.1 hWC hS hA rfl (fun j hj => by rcases (show j = 0 ∨ j = 1 ∨ j = 2 ∨ j = 3 ∨ j = 4 ∨ j = 5 ∨ j = 6 ∨ j = 7 ∨ j = 8 ∨ j = 9 ∨ j = 10 ∨ j = 11 ∨ j = 12 ∨ j = 13 ∨ j = 14 ∨ j = 15 ∨ j = 16 ∨ j = 17 by omega) with rfl | rfl | rfl | rfl | rfl | rfl | rfl | rfl | rfl | rfl | rfl | rfl | rfl | rfl | rfl | rfl | rfl | rfl <;> rfl) (Nat.le_of_ble_eq_true rfl) (Nat.le_of_ble_eq_true rfl) dL_law_8 (fun mm H hm hW hS => ?_)
  have hWC : wd_P D vwCl (lw_A s) wC H := wd_part1 hm hW
  have hWR : wd_P D vwCl (lw_A s) (wd_up (fun _ => none) mm (.inr (3, [.null, .null, .int 0, .null, .null, .null, .null, .int 0, .int 0, .int 0, .null, .int 0, .null, .int 0, .null, .int 0, .int 0, .null]))) H := wd_part2 hW
  have hd : ∀ q, (wd_up (fun _ => none) mm (.inr (3, [.null, .null, .int 0, .null, .null, .null, .null, .int 0, .int 0, .int 0, .null, .int 0, .null, .int 0, .null, .int 0, .int 0, .null])) : Wd) q ≠ none → wC q = none := fun q hq => by
    by_cases e : q = mm
    · rw [e]; exact hm
    · exact absurd (wd_up_ne _ _ e) hq
  refine lv_dup hx hb dL_law_11 rfl ?_
  refine wd_callIv2 (As := []) (rest := [.ref mm]) (c2 := 20) (s2 := 8344) ⟨hx, hb, hml, hown, hts⟩ (k_X3_init l D cI cT _ _ mm (wd_up_self _ _ _)) (cwI 0 hts gL_law_X3_init rfl rfl rfl (hts0 (.initialized RX3) (by decide +kernel)) (hts0 (.methodLink RL 12 yX3_init) (by decide +kernel)) (hts0 (.instanceMethod yX3_init) (by decide +kernel)) rfl (by decide +kernel) ⟨Nat.le_of_ble_eq_true rfl, Nat.le_of_ble_eq_true rfl⟩) gK_ok hK hWR hS hA rfl hl.1 rfl (Nat.le_of_ble_eq_true rfl) dL_law_12 ⟨Nat.le_of_ble_eq_true rfl, Nat.le_of_ble_eq_true rfl⟩ rfl rfl hWC hd (fun wR H locs hIR hWR hWC hd hS => ?_)
  refine lv_astore_n (lv' := [(2, .ref mm), (1, .ref o), (0, .ref b)]) hx hb dL_law_15 rfl hl (by decide) rfl (fun ls hl => ?_)
  refine lv_iconst (v := 0) hx hb dL_law_16 (by decide) ?_
  refine lv_istore_n (lv' := [(3, .int 0), (2, .ref mm), (1, .ref o), (0, .ref b)]) hx hb dL_law_17 rfl hl (by decide) rfl (fun ls hl => ?_)
  exact lw_loop hL C0 hK 512 0 _ wC wR H locs ls 20 8344 (by omega) (by omega) (by omega) (by omega) ⟨wf_0, hIC, hIR, hWC, hWR, wd_sep hd, hS⟩ (lv_sub hl [3, 2, 1, 0] rfl)
