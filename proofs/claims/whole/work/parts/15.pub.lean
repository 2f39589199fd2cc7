theorem nt_spec {t : Int32} (h : ¬ j_noText t) : ∃ t' : Nat, t' < 10 ∧ t = nI t' := by
  simp only [j_noText, not_or] at h
  obtain ⟨j, hj, rfl⟩ := nI_of h.1
  refine ⟨j, ?_, rfl⟩
  have h2 := h.2
  rw [i_le, Decidable.not_not] at h2
  have h3 := (nI_ltI (a := j) (b := 10) hj (by omega)).mp h2
  exact h3
section PUB
variable {p : Program} {l : Launch} {e : Env} {R : Room} {s : State} {m : MethodId} {args : Array Value} {below : List Frame} {meth : Method} {c : Code} {H : Heap} {locs : List Loc} {cells slots : Nat} {Q : State → Prop} {pc : Nat} {ls : Array Slot} {rest : List Value}
theorem wd_topR {x y : Value} (h : x = y) (k : W p l e R s m args below meth c H locs cells slots Q (F0 m pc ls (y :: rest))) : W p l e R s m args below meth c H locs cells slots Q (F0 m pc ls (x :: rest)) := by rw [h]; exact k
end PUB
section CINV2
variable {cI cT : ClassId} {o tA kA dr drI wk wkI sw swI : Nat} {aT aI : Nat → Nat} {Xd : Rw} {cd pl : Int32} {df : List Int32} {tx : Nat → Option Nat} {kp : List Nat} {rs : Rws} {w w' : Wd} {D : va_G} {cl : List vw_C} {A : Nat → Prop} {H : Heap}
theorem cInv.kWS (h : cInv cI cT o tA kA dr drI wk wkI sw swI aT aI Xd cd pl df tx kp rs w) {X Y : Rw} (hX : rowAt w sw swI cI 240 X) : rowAt (rowSet w wk wkI cI 240 Y) sw swI cI 240 X := by
  obtain ⟨h1, h2, h3, ⟨h4, h4'⟩, ⟨X5, h5⟩, ⟨X6, h6⟩, ⟨n1, n2, n3, n4, n5, n6, n7⟩, h8, h9, h10⟩ := h
  exact hX.same (rowSet_ne (Ne.symm n4) (wd_ne hX.1 h5.2.1 (by simp))) (rowSet_ne (wd_ne hX.2.1 h5.1 (by simp)) (Ne.symm n7))
theorem cInv.kSW (h : cInv cI cT o tA kA dr drI wk wkI sw swI aT aI Xd cd pl df tx kp rs w) {X Y : Rw} (hX : rowAt w wk wkI cI 240 X) : rowAt (rowSet w sw swI cI 240 Y) wk wkI cI 240 X := by
  obtain ⟨h1, h2, h3, ⟨h4, h4'⟩, ⟨X5, h5⟩, ⟨X6, h6⟩, ⟨n1, n2, n3, n4, n5, n6, n7⟩, h8, h9, h10⟩ := h
  exact hX.same (rowSet_ne n4 (wd_ne hX.1 h6.2.1 (by simp))) (rowSet_ne (wd_ne hX.2.1 h6.1 (by simp)) n7)
theorem c_setText (hC : cInv cI cT o tA kA dr drI wk wkI sw swI aT aI Xd cd pl df tx kp rs w) {r t : Nat} {kd : Int32} {X : Rw} (hr : ¬ live tx kp r)
    (hp : ∃ q q2 f', w q = none ∧ w q2 = none ∧ q ≠ q2 ∧ (∀ k, k < X.2 → f' k = X.1 k) ∧ w' = wd_up (wd_up (wd_up (wd_up w q2 (e_ints cI X.2 f')) q (e_text kd q2)) tA (e_refs cT 10 (va_up (fun t => (tx t).map aT) t (some q)))) o (e_obj tA kA (nI kp.length) dr wk sw 0 pl))
    (hW : wd_P D cl A w' H) : ∃ w2 aT' aI', wd_P D cl A w2 H ∧ cInv cI cT o tA kA dr drI wk wkI sw swI aT' aI' Xd 0 pl df (va_up tx t (some r)) kp (va_up rs r (kd, rl X)) w2 := by
  obtain ⟨q, q2, f', hq, hq2, hn, hf, rfl⟩ := hp
  have h1 := hC.1
  have h2 := hC.2.1
  have e1 : q2 ≠ o := Ne.symm (wd_fresh hq2 h1)
  have e2 : q2 ≠ tA := Ne.symm (wd_fresh hq2 h2)
  have e3 : q ≠ o := Ne.symm (wd_fresh hq h1)
  have e4 : q ≠ tA := Ne.symm (wd_fresh hq h2)
  have e5 : tA ≠ o := wd_ne h2 h1 (by simp)
  have hc : (wd_up (wd_up (wd_up (wd_up w q2 (e_ints cI X.2 f')) q (e_text kd q2)) tA (e_refs cT 10 (va_up (fun t => (tx t).map aT) t (some q)))) o (e_obj tA kA (nI kp.length) dr wk sw 0 pl)) q2 = some (e_ints cI X.2 f') := by
    rw [wd_up_ne _ _ e1, wd_up_ne _ _ e2, wd_up_ne _ _ (Ne.symm hn), wd_up_self]
  have hW2 := wd_norm (f' := lf (rl X)) hW hc (fun k hk => by rw [hf k hk, lf, rl_getD hk])
  refine ⟨_, va_up aT r q, va_up aI r q2, hW2, hC.set hr hq hq2 hn ?_ ?_ ?_ ?_ ?_⟩
  · rw [wd_up_ne _ _ (Ne.symm e1), wd_up_self]
  · rw [wd_up_ne _ _ (Ne.symm e2), wd_up_ne _ _ e5, wd_up_self]
  · rw [wd_up_ne _ _ hn, wd_up_ne _ _ e3, wd_up_ne _ _ e4, wd_up_self]
  · rw [wd_up_self]
    show _ = some (e_ints cI (rl X).length (lf (rl X)))
    rw [rl_len]
  · intro p h1 h2 h3 h4
    rw [wd_up_ne _ _ h4, wd_up_ne _ _ h1, wd_up_ne _ _ h2, wd_up_ne _ _ h3, wd_up_ne _ _ h4]
end CINV2
theorem vuS (tx : Nat → Option Nat) (aT : Nat → Nat) (i r : Nat) : va_up (fun t => (tx t).map aT) i (some (aT r)) = fun t => (va_up tx i (some r) t).map aT := by
  funext t
  by_cases h : t = i <;> simp [va_up, h]
theorem vuN (tx : Nat → Option Nat) (aT : Nat → Nat) (i : Nat) : va_up (fun t => (tx t).map aT) i none = fun t => (va_up tx i none t).map aT := by
  funext t
  by_cases h : t = i <;> simp [va_up, h]
theorem lf_set {xs : List Int32} {k : Nat} {v : Int32} (h : k < xs.length) : upd (lf xs) k v = lf (xs.set k v) := by
  funext j
  by_cases hj : j = k
  · subst hj; rw [pk_us]; simp [lf, h]
  · rw [pk_un hj]; simp [lf, List.getElem?_set_ne (Ne.symm hj)]
theorem e_list_set {cI : ClassId} {xs : List Int32} {k : Nat} {v : Int32} (h : k < xs.length) : (.inl (cI, xs.length, .inl (upd (lf xs) k v)) : va_E) = e_list cI (xs.set k v) := by
  rw [e_list, ← lf_set h, List.length_set]
theorem live_up {tx : Nat → Option Nat} {kp : List Nat} {t u : Nat} {r : Nat} (h : live (va_up tx t (tx u)) kp r) : live tx kp r := by
  rcases h with ⟨t', ht⟩ | h
  · by_cases e : t' = t
    · subst e; simp [va_up] at ht; exact Or.inl ⟨u, ht⟩
    · simp [va_up, e] at ht; exact Or.inl ⟨t', ht⟩
  · exact Or.inr h
theorem live_upN {tx : Nat → Option Nat} {kp : List Nat} {t : Nat} {r : Nat} (h : live (va_up tx t none) kp r) : live tx kp r := by
  rcases h with ⟨t', ht⟩ | h
  · by_cases e : t' = t
    · subst e; simp [va_up] at ht
    · simp [va_up, e] at ht; exact Or.inl ⟨t', ht⟩
  · exact Or.inr h
theorem out_neg {k : Int32} {n : Nat} (h : k < 0) : j_out k n := Or.inl (by rw [i_lt, i_l0] at h; exact h)
theorem out_nat {k n : Nat} (hk : k < 2 ^ 31) : j_out (nI k) n ↔ n ≤ k := by
  unfold j_out
  rw [nI_toInt hk]
  omega
theorem j_uc_eq (p : Int32) : j_uc p = nI (u_units p).length := by
  rw [u_units_len, j_uc]
  split <;> rfl
theorem c_same {cI cT : ClassId} {o tA kA dr drI wk wkI sw swI : Nat} {aT aI : Nat → Nat} {Xd : Rw} {cd pl : Int32} {df : List Int32} {tx : Nat → Option Nat} {kp : List Nat} {rs : Rws} {w : Wd} (hC : cInv cI cT o tA kA dr drI wk wkI sw swI aT aI Xd cd pl df tx kp rs w) {a b : Nat} (h : (tx a).map aT = (tx b).map aT) : tx a = tx b := by
  cases ha : tx a with
  | none =>
    cases hb : tx b with
    | none => rfl
    | some r => rw [ha, hb] at h; cases h
  | some r =>
    cases hb : tx b with
    | none => rw [ha, hb] at h; cases h
    | some r' =>
      rw [ha, hb] at h
      have h1 : aT r = aT r' := by simpa using h
      rw [hC.2.2.2.2.2.2.2.2.1 r r' (Or.inl ⟨a, ha⟩) (Or.inl ⟨b, hb⟩) h1]
theorem out_yes {k n : Nat} (hk : k < 2 ^ 31) (h : n ≤ k) : j_out (nI k) n := (out_nat hk).mpr h
theorem out_no {k n : Nat} (hk : k < 2 ^ 31) (h : k < n) : ¬ j_out (nI k) n := fun q => absurd ((out_nat hk).mp q) (by omega)
