/-! Every call keeps the state well formed: the 28 calls -/
theorem nor2 {a b : Prop} (h : ¬ (a ∨ b)) : ¬ a ∧ ¬ b := not_or.mp h
theorem nor3 {a b c : Prop} (h : ¬ (a ∨ b ∨ c)) : ¬ a ∧ ¬ b ∧ ¬ c := ⟨fun q => h (Or.inl q), fun q => h (Or.inr (Or.inl q)), fun q => h (Or.inr (Or.inr q))⟩
theorem wf_no {S : Sg} (h : WF S) (c : Int32) : WF (s_no S c).2 := h
theorem wf_yes {S : Sg} (h : WF S) (v : Int32) : WF (s_yes S v).2 := h
theorem wf_brk {S : Sg} (h : WF S) (v : Int32) : WF (s_brk S v).2 := h
theorem wf_w1 {S : Sg} {t : Int32} {f : Int32 → List Int32 → Int32 × Sg} (h : WF S) (hf : ∀ r, rOK (S.2.2.2.2.2 r) → WF (f (S.2.2.2.2.2 r).1 (S.2.2.2.2.2 r).2).2) : WF (s_w1 S t f).2 := by
  unfold s_w1
  split
  · exact h
  · rename_i r hr
    exact hf r (h.2.2.2.1 r (Or.inl ⟨_, hr⟩)).2
theorem wf_w2 {S : Sg} {a b : Int32} {z : Int32 × Sg} {f : Nat → Nat → Int32 × Sg} (h : WF S) (hz : WF z.2) (hf : ∀ r r', rOK (S.2.2.2.2.2 r) → rOK (S.2.2.2.2.2 r') → WF (f r r').2) : WF (s_w2 S a b z f).2 := by
  unfold s_w2
  split
  · exact hz
  · rename_i r hr
    split
    · exact hz
    · rename_i r' hr'
      exact hf r r' (h.2.2.2.1 r (Or.inl ⟨_, hr⟩)).2 (h.2.2.2.1 r' (Or.inl ⟨_, hr'⟩)).2
theorem nt_lt {t : Int32} (h : ¬ j_noText t) : t.toNatClampNeg < 10 := by
  obtain ⟨n, hn, rfl⟩ := nt_spec h
  rw [nI_clamp (by omega)]
  exact hn
theorem k012 {k : Int32} (h : ¬ k < 0) (h2 : ¬ 2 < k) : k = 0 ∨ k = 1 ∨ k = 2 := by
  rw [i_lt, i_l0] at h
  obtain ⟨n, hn, rfl⟩ := nn_of (x := k) (by omega)
  have h3 : ¬ 2 < n := fun q => h2 ((nI_ltI (a := 2) (b := n) (by omega) hn).mpr q)
  rcases n with _ | _ | _ | n
  · exact Or.inl rfl
  · exact Or.inr (Or.inl rfl)
  · exact Or.inr (Or.inr rfl)
  · omega
theorem wf_point {S : Sg} (h : WF S) (p : Int32) : WF (s_point S p).2 := by
  unfold s_point
  split
  · exact h
  · rename_i hp
    split
    · exact h
    · rename_i hl
      rw [not_or, i_lt, i_lt, i_l0, show (1114111 : Int32).toInt = 1114111 from rfl] at hp
      refine ⟨⟨?_, rng_app h.1.2 (units_rng (by omega))⟩, h.2⟩
      show (S.2.2.1 ++ u_units p).length ≤ 60
      rw [List.length_append]
      omega
theorem wf_unit {S : Sg} (h : WF S) (u : Int32) : WF (s_unit S u).2 := by
  unfold s_unit
  split
  · exact h
  · rename_i hp
    split
    · exact h
    · rename_i hl
      rw [not_or, i_lt, i_lt, i_l0, show (65535 : Int32).toInt = 65535 from rfl] at hp
      refine ⟨⟨?_, rng_app h.1.2 (rng_cons (by omega) rng_nil)⟩, h.2⟩
      show (S.2.2.1 ++ [u]).length ≤ 60
      rw [List.length_append]
      simp
      omega
theorem wf_fresh {S : Sg} (h : WF S) : WF (s_fresh S).2 := ⟨⟨Nat.zero_le _, rng_nil (a := 65535)⟩, h.2⟩
theorem wf_lay {S : Sg} (h : WF S) (t k : Int32) : WF (s_lay S t k).2 := by
  unfold s_lay
  split
  · exact h
  · rename_i hc
    have hc := nor3 hc
    apply wf_mk h (nt_lt hc.1)
    rcases k012 hc.2.1 hc.2.2 with e | e | e <;> subst e
    · refine rOK_mk (Or.inl rfl) ?_ ?_
      · simpa using h.1.1
      · rw [if_neg (by decide)]
        exact rng_map (a := 65535) h.1.2 (fun x _ => mask_rng x)
    · refine rOK_mk (Or.inr (Or.inl rfl)) ?_ ?_
      · have := u_pts_len S.2.2.1
        have := h.1.1
        simp
        omega
      · rw [if_pos rfl]
        exact pts_rng h.1.2
    · refine rOK_mk (Or.inr (Or.inr rfl)) ?_ ?_
      · have := h.1.1
        simp
        omega
      · rw [if_neg (by decide)]
        exact rng_map (a := 65535) h.1.2 (fun x _ => mask_rng8 x)
theorem wf_share {S : Sg} (h : WF S) (t u : Int32) : WF (s_share S t u).2 := by
  unfold s_share
  split
  · exact h
  · rename_i hc
    have hc := nor2 hc
    exact wf_tx h (nt_lt hc.1) (fun r hr => Or.inl ⟨_, hr⟩)
theorem wf_nothing {S : Sg} (h : WF S) (t : Int32) : WF (s_nothing S t).2 := by
  unfold s_nothing
  split
  · exact h
  · rename_i hc
    exact wf_tx h (nt_lt hc) (fun r hr => by cases hr)
theorem wf_sort {S : Sg} (h : WF S) (t : Int32) : WF (s_sort S t).2 := by
  unfold s_sort
  split <;> exact h
theorem wf_length {S : Sg} (h : WF S) (t : Int32) : WF (s_length S t).2 := by
  unfold s_length
  split
  · exact h
  · exact wf_w1 h (fun r hr => h)
theorem wf_points {S : Sg} (h : WF S) (t : Int32) : WF (s_points S t).2 := by
  unfold s_points
  split
  · exact h
  · exact wf_w1 h (fun r hr => by
      split <;> exact h)
theorem wf_at {S : Sg} (h : WF S) (t k : Int32) : WF (s_at S t k).2 := by
  unfold s_at
  split
  · exact h
  · exact wf_w1 h (fun r hr => by
      split <;> exact h)
theorem wf_pointAt {S : Sg} (h : WF S) (t k : Int32) : WF (s_pointAt S t k).2 := by
  unfold s_pointAt
  split
  · exact h
  · exact wf_w1 h (fun r hr => by
      split
      · exact h
      · split <;> exact h)
theorem rng_set {a : Int} {xs : List Int32} {k : Nat} {v : Int32} (h : rng a xs) (hv : 0 ≤ v.toInt ∧ v.toInt ≤ a) : rng a (xs.set k v) := fun w hw => by
  rcases List.mem_or_eq_of_mem_set hw with q | q
  · exact h w q
  · rw [q]; exact hv
theorem wf_put {S : Sg} (h : WF S) (t k v : Int32) : WF (s_put S t k v).2 := by
  unfold s_put
  split
  · exact h
  · split
    · exact h
    · rename_i r hr
      have hR := (h.2.2.2.1 r (Or.inl ⟨_, hr⟩)).2
      split
      · exact h
      · rename_i h1
        split
        · exact h
        · refine wf_rs h (rOK_mk hR.kd ?_ ?_)
          · rw [List.length_set]; exact hR.lenk
          · apply rng_set hR.rng
            rcases hR.kd with e | e | e
            · rw [e]; exact mask_rng v
            · exact absurd e h1
            · rw [e]; exact mask_rng8 v
theorem wf_turnInto {S : Sg} (h : WF S) (t u way : Int32) : WF (s_turnInto S t u way).2 := by
  unfold s_turnInto
  split
  · exact h
  · rename_i hc
    have hc := nor3 hc
    refine wf_w1 h (fun r hr => ?_)
    split
    · exact h
    · rename_i h2
      by_cases hw : way = 1
      · rw [if_pos hw]
        split
        · exact h
        · rename_i hl
          refine wf_mk h (nt_lt hc.1) ?_
          subst hw
          exact rOK_mk (Or.inr (Or.inl rfl)) (by simp; omega) (pl_rng hr h2)
      · rw [if_neg hw]
        split
        · exact h
        · rename_i hl
          refine wf_mk h (nt_lt hc.1) ?_
          have hw0 : way = 0 := by
            rcases Decidable.em (way = 0) with q | q
            · exact q
            · exact absurd ⟨q, hw⟩ hc.2.2
          subst hw0
          exact rOK_mk (Or.inl rfl) (by simp; omega) (ul_rng hr h2)
theorem wf_tell {S : Sg} (h : WF S) (t u form : Int32) : WF (s_tell S t u form).2 := by
  unfold s_tell
  split
  · exact h
  · rename_i hc
    have hc := nor3 hc
    refine wf_w1 h (fun r hr => ?_)
    split
    · exact h
    · rename_i h2
      have hl := hr.len2 h2
      split
      · refine wf_mk h (nt_lt hc.1) (rOK_mk (Or.inr (Or.inr rfl)) ?_ (rng_fm (ul_rng hr h2) (fun x hx => tu_rng hx)))
        have a1 := fm_len_le (φ := u_tu form) (b := 2) (fun _ => Nat.le_refl 2) (u_ul (S.2.2.2.2.2 r).1 (S.2.2.2.2.2 r).2)
        have a2 := u_ul_len (S.2.2.2.2.2 r).1 (S.2.2.2.2.2 r).2
        rw [if_pos rfl]
        omega
      · split
        · exact h
        · rename_i hf
          have hf2 := Decidable.of_not_not hf
          have a1 := fm_len_le (φ := u_tp form) (b := 4) (u_tp_le form) (u_pl (S.2.2.2.2.2 r).1 (S.2.2.2.2.2 r).2)
          have a2 := u_pl_len (S.2.2.2.2.2 r).1 (S.2.2.2.2.2 r).2
          refine wf_mk h (nt_lt hc.1) (rOK_mk (Or.inr (Or.inr rfl)) ?_ ?_)
          · rw [if_pos rfl]
            omega
          · intro v hv
            obtain ⟨x, hx, hv2⟩ := List.mem_flatMap.mp hv
            refine tp_rng (pl_rng hr h2 x hx) (fun h3 => ?_) v hv2
            have := find_none (by omega) hf2 x hx
            unfold j_bad at this
            rw [if_pos h3, i_lt, show (255 : Int32).toInt = 255 from rfl] at this
            omega
theorem wf_join {S : Sg} (h : WF S) (t a b : Int32) : WF (s_join S t a b).2 := by
  unfold s_join
  split
  · exact h
  · rename_i hc
    have hc := nor3 hc
    refine wf_w2 h h (fun r r' hr hr' => ?_)
    split
    · exact h
    · rename_i he
      have he := Decidable.of_not_not he
      by_cases hl : (if (S.2.2.2.2.2 r).1 = 2 then 240 else 60) < (S.2.2.2.2.2 r).2.length + (S.2.2.2.2.2 r').2.length
      · rw [if_pos hl]
        exact h
      · rw [if_neg hl]
        refine wf_mk h (nt_lt hc.1) (rOK_mk hr.kd ?_ (rng_app hr.rng ?_))
        · rw [List.length_append]
          omega
        · rw [he]; exact hr'.rng
theorem wf_change {S : Sg} (h : WF S) (t u way : Int32) : WF (s_change S t u way).2 := by
  unfold s_change
  split
  · exact h
  · rename_i hc
    have hc := nor3 hc
    refine wf_w1 h (fun r hr => ?_)
    split
    · exact h
    · rename_i h2
      refine wf_mk h (nt_lt hc.1) (rOK_mk hr.kd ?_ (rng_map hr.rng (fun x hx => ?_)))
      · rw [List.length_map]; exact hr.lenk
      · have hb : 376 ≤ hiOf (S.2.2.2.2.2 r).1 := by
          rcases hr.kd with e | e | e
          · rw [e]; decide
          · rw [e]; decide
          · exact absurd e h2
        split
        · exact (case_rng hb hx).1
        · exact (case_rng hb hx).2
theorem wf_cut {S : Sg} (h : WF S) (t u i n : Int32) : WF (s_cut S t u i n).2 := by
  unfold s_cut
  split
  · exact h
  · rename_i hc
    have hc := nor2 hc
    refine wf_w1 h (fun r hr => ?_)
    split
    · exact h
    · split
      · exact h
      · split
        · exact h
        · refine wf_mk h (nt_lt hc.1) (rOK_mk hr.kd ?_ (rng_sub hr.rng (fun v hv => List.mem_of_mem_drop (List.mem_of_mem_take hv))))
          have := hr.lenk
          rw [List.length_take, List.length_drop]
          omega
theorem wf_back {S : Sg} (h : WF S) (t u : Int32) : WF (s_back S t u).2 := by
  unfold s_back
  split
  · exact h
  · rename_i hc
    have hc := nor2 hc
    refine wf_w1 h (fun r hr => ?_)
    refine wf_mk h (nt_lt hc.1) ?_
    rw [← hb_list (fun h0 => by have := hr.rng; rw [h0] at this; exact this)]
    refine rOK_mk hr.kd (by simpa using hr.lenk) (fun v hv => ?_)
    rw [List.mem_reverse, List.mem_map] at hv
    obtain ⟨q, hq, rfl⟩ := hv
    rw [List.mem_range] at hq
    unfold hb
    split
    · rename_i hu
      exact rng_lf hr.rng hu.2.2.1
    · split
      · exact rng_lf hr.rng (by omega)
      · exact rng_lf hr.rng hq
theorem bey_nat {len : Nat} {i n : Int32} (h : ¬ j_bey len i n) : i.toNatClampNeg + n.toNatClampNeg ≤ len := by
  have h := nor3 h
  obtain ⟨a, ha, rfl⟩ := nn_of (x := i) (by omega)
  obtain ⟨b, hb, rfl⟩ := nn_of (x := n) (by omega)
  rw [nI_toInt ha, nI_toInt hb] at h
  rw [nI_clamp ha, nI_clamp hb]
  omega
theorem wf_copy {S : Sg} (h : WF S) (x i y j n : Int32) : WF (s_copy S x i y j n).2 := by
  unfold s_copy
  split
  · exact h
  · refine wf_w2 h h (fun r r' hr hr' => ?_)
    split
    · exact h
    · rename_i he
      have he := nor2 he
      have he2 := Decidable.of_not_not he.2
      split
      · exact h
      · rename_i hb
        have hb := nor2 hb
        have b1 := bey_nat hb.1
        have b2 := bey_nat hb.2
        refine wf_rs h (rOK_mk hr'.kd ?_ (rng_app (rng_sub hr'.rng (fun v hv => List.mem_of_mem_take hv)) (rng_app ?_ (rng_sub hr'.rng (fun v hv => List.mem_of_mem_drop hv)))))
        · have := hr'.lenk
          rw [List.length_append, List.length_append, List.length_take, List.length_take, List.length_drop, List.length_drop]
          omega
        · rw [← he2]
          exact rng_sub hr.rng (fun v hv => List.mem_of_mem_drop (List.mem_of_mem_take hv))
theorem wf_find {S : Sg} (h : WF S) (a b i : Int32) : WF (s_find S a b i).2 := by
  unfold s_find
  split
  · exact h
  · refine wf_w2 h h (fun r r' hr hr' => ?_)
    split <;> exact h
theorem wf_compare {S : Sg} (h : WF S) (a b way : Int32) : WF (s_compare S a b way).2 := by
  unfold s_compare
  split
  · exact h
  · refine wf_w2 h h (fun r r' hr hr' => ?_)
    split <;> exact h
theorem wf_keep {S : Sg} (h : WF S) (t : Int32) : WF (s_keep S t).2 := by
  unfold s_keep
  split
  · exact h
  · rename_i hc
    split
    · exact h
    · rename_i r hr
      split
      · exact h
      · rename_i h0
        have h0 := Decidable.of_not_not h0
        split
        · rename_i k r' hk
          have hm := (u_kl_spec _ _ hk).2
          exact wf_tx h (nt_lt hc) (fun q hq => Or.inr (by cases hq; exact List.mem_of_getElem? hm))
        · split
          · exact h
          · rename_i hl
            obtain ⟨h1, h2, h3, h4, h5⟩ := h
            refine ⟨h1, h2, ?_, fun q hq => h4 q ?_, fun q hq => ?_⟩
            · show (S.2.2.2.2.1 ++ [r]).length ≤ 12
              rw [List.length_append]
              simp
              omega
            · rcases hq with hq | hq
              · exact Or.inl hq
              · rcases List.mem_append.mp hq with hq | hq
                · exact Or.inr hq
                · rw [List.mem_singleton.mp hq]
                  exact Or.inl ⟨_, hr⟩
            · rcases List.mem_append.mp hq with hq | hq
              · exact h5 q hq
              · rw [List.mem_singleton.mp hq]
                exact h0
theorem wf_same {S : Sg} (h : WF S) (a b : Int32) : WF (s_same S a b).2 := by
  unfold s_same
  split <;> exact h
theorem pf_rng {xs : List Int32} (hx : xs.length ≤ 240) (hr : rng 255 xs) {k : Nat} (h : j_pf (lf xs) xs.length k ≠ -1) : 0 ≤ (j_pf (lf xs) xs.length k).toInt ∧ (j_pf (lf xs) xs.length k).toInt ≤ 1114111 := by
  by_cases hk : xs.length ≤ k
  · exact absurd (by rw [j_pf, if_pos hk]) h
  · have hb := rng_lf hr (k := k) (by omega)
    have key : ∀ (n : Nat) (b : Int), 1 ≤ n → n ≤ 4 → j_bc (lf xs k) = nI n → 0 ≤ b → 0 ≤ (lf xs k - j_fbo (nI n)).toInt → (lf xs k - j_fbo (nI n)).toInt ≤ b → (b + 1) * 64 ^ (n - 1) ≤ 16777216 → (n ≤ 3 → (b + 1) * 64 ^ (n - 1) ≤ 65536) → 0 ≤ (j_pf (lf xs) xs.length k).toInt ∧ (j_pf (lf xs) xs.length k).toInt ≤ 1114111 := by
      intro n b h1 h4 hn hb0 g0 g1 g2 g3
      unfold j_pf at h ⊢
      rw [if_neg hk] at h ⊢
      rw [hn] at h ⊢
      by_cases hc : nI n = 0 ∨ nI xs.length - nI k < nI n
      · rw [if_pos hc] at h; exact absurd rfl h
      · rw [if_neg hc] at h ⊢
        cases hp : j_pfl (lf xs) xs.length (nI k + nI n) (xs.length - (k + 1)) (k + 1) (lf xs k - j_fbo (nI n)) with
        | none => rw [hp] at h; exact absurd rfl h
        | some p =>
          rw [hp] at h
          simp only at h ⊢
          have hB := pfl_bound (len := xs.length) (lim := nI k + nI n) _ (k + 1) _ b (n - 1) (by rw [nI_add]; congr 1; omega) (by omega) g0 g1 hb0 g2 p hp
          by_cases ht : j_told p (nI n)
          · rw [if_pos ht]
            exact told_rng h1 h4 hB.1 (fun q => by have := g3 q; omega) ht
          · rw [if_neg ht] at h; exact absurd rfl h
    have sub : ∀ c : Int32, 0 ≤ c.toInt → c.toInt ≤ 255 → (lf xs k - c).toInt = (lf xs k).toInt - c.toInt := fun c h1 h2 => i_sub (by omega) (by omega)
    by_cases c1 : lf xs k < 128
    · have c1' := c1
      rw [i_lt, show (128 : Int32).toInt = 128 from rfl] at c1'
      have e := sub 0 (by decide) (by decide)
      rw [i_l0] at e
      exact key 1 127 (by omega) (by omega) (by rw [j_bc, if_pos c1]; rfl) (by decide) (by rw [show j_fbo (nI 1) = 0 from rfl]; omega) (by rw [show j_fbo (nI 1) = 0 from rfl]; omega) (by decide) (fun _ => by decide)
    · by_cases c2 : lf xs k < 194 ∨ 244 < lf xs k
      · exact absurd (j_pf_bc h) (not_not_intro (by rw [j_bc, if_neg c1, if_pos c2]))
      · have c2' := c2
        rw [not_or, i_lt, i_lt, show (194 : Int32).toInt = 194 from rfl, show (244 : Int32).toInt = 244 from rfl] at c2'
        by_cases c3 : lf xs k < 224
        · have c3' := c3
          rw [i_lt, show (224 : Int32).toInt = 224 from rfl] at c3'
          have e := sub 192 (by decide) (by decide)
          rw [show (192 : Int32).toInt = 192 from rfl] at e
          exact key 2 31 (by omega) (by omega) (by rw [j_bc, if_neg c1, if_neg c2, if_pos c3]; rfl) (by decide) (by rw [show j_fbo (nI 2) = 192 from rfl]; omega) (by rw [show j_fbo (nI 2) = 192 from rfl]; omega) (by decide) (fun _ => by decide)
        · have c3' := c3
          rw [i_lt, show (224 : Int32).toInt = 224 from rfl] at c3'
          by_cases c4 : lf xs k < 240
          · have c4' := c4
            rw [i_lt, show (240 : Int32).toInt = 240 from rfl] at c4'
            have e := sub 224 (by decide) (by decide)
            rw [show (224 : Int32).toInt = 224 from rfl] at e
            exact key 3 15 (by omega) (by omega) (by rw [j_bc, if_neg c1, if_neg c2, if_neg c3, if_pos c4]; rfl) (by decide) (by rw [show j_fbo (nI 3) = 224 from rfl]; omega) (by rw [show j_fbo (nI 3) = 224 from rfl]; omega) (by decide) (fun _ => by decide)
          · have c4' := c4
            rw [i_lt, show (240 : Int32).toInt = 240 from rfl] at c4'
            have e := sub 240 (by decide) (by decide)
            rw [show (240 : Int32).toInt = 240 from rfl] at e
            exact key 4 4 (by omega) (by omega) (by rw [j_bc, if_neg c1, if_neg c2, if_neg c3, if_neg c4]; rfl) (by decide) (by rw [show j_fbo (nI 4) = 240 from rfl]; omega) (by rw [show j_fbo (nI 4) = 240 from rfl]; omega) (by decide) (fun q => absurd q (by omega))
theorem up_rng {form : Int32} {xs : List Int32} (hx : xs.length ≤ 240) (hr : rng 255 xs) {k : Nat} (hk : k < xs.length) (h : u_p form xs k ≠ -1) : 0 ≤ (u_p form xs k).toInt ∧ (u_p form xs k).toInt ≤ 1114111 := by
  have b1 := rng_lf hr hk
  unfold u_p at h ⊢
  split at h
  · rename_i h0
    rw [if_pos h0]
    exact pf_rng hx hr h
  · rename_i h0
    rw [if_neg h0]
    split at h
    · rename_i h3
      rw [if_pos h3]
      omega
    · rename_i h3
      rw [if_neg h3]
      split at h
      · exact absurd rfl h
      · rename_i h4
        have b2 := rng_lf hr (k := k + 1) (by omega)
        rw [if_neg h4]
        split
        · rw [two_rng b1 b2]; omega
        · rw [two_rng b2 b1]; omega
theorem rd_rng {form : Int32} {xs : List Int32} (hx : xs.length ≤ 240) (hr : rng 255 xs) : ∀ (m k : Nat) (acc : List Int32), rng 65535 acc → rng 65535 (u_rd form xs m k acc).2
  | 0, _, _, h => h
  | m + 1, k, acc, h => by
    rw [u_rd]
    split
    · rename_i hc
      split
      · exact h
      · rename_i hp
        exact rd_rng hx hr m _ _ (rng_app h (units_rng (up_rng hx hr hc.1 hp)))
    · exact h
theorem wf_read {S : Sg} (h : WF S) (t u form : Int32) : WF (s_read S t u form).2 := by
  unfold s_read
  split
  · exact h
  · rename_i hc
    have hc := nor3 hc
    refine wf_w1 h (fun r hr => ?_)
    split
    · exact h
    · rename_i h2
      have h2 := Decidable.of_not_not h2
      have hg := hr.rng
      rw [h2] at hg
      split
      · exact h
      · split
        · exact h
        · rename_i hl
          exact wf_mk h (nt_lt hc.1) (rOK_mk (Or.inl rfl) (by simp; omega) (rd_rng hr.len hg _ _ _ rng_nil))
theorem wf_0 : WF (0, -1, [], fun _ => none, [], fun _ => (0, [])) := ⟨⟨Nat.zero_le _, fun _ h => absurd h List.not_mem_nil⟩, fun _ _ => rfl, Nat.zero_le _, fun r h => by
  rcases h with ⟨t, ht⟩ | h
  · cases ht
  · exact absurd h List.not_mem_nil, fun r h => absurd h List.not_mem_nil⟩
