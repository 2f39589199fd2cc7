section CINV3
variable {cI cT : ClassId} {o tA kA dr drI wk wkI sw swI : Nat} {aT aI : Nat → Nat} {Xd : Rw} {cd pl : Int32} {df : List Int32} {tx : Nat → Option Nat} {kp : List Nat} {rs : Rws} {w w' : Wd}
theorem vuK (kp : List Nat) (aT : Nat → Nat) (r : Nat) : va_up (fun k => (kp[k]?).map aT) kp.length (some (aT r)) = fun k => ((kp ++ [r])[k]?).map aT := by
  funext k
  unfold va_up
  by_cases h : k = kp.length
  · subst h; simp
  · rw [if_neg h]
    by_cases h2 : k < kp.length
    · rw [List.getElem?_append_left h2]
    · show (kp[k]?).map aT = _
      rw [List.getElem?_eq_none (l := kp) (by omega), List.getElem?_eq_none (l := kp ++ [r]) (by simp; omega)]
/-- a live row is kept too -/
theorem cInv.keep (h : cInv cI cT o tA kA dr drI wk wkI sw swI aT aI Xd cd pl df tx kp rs w) {r : Nat} (hr : live tx kp r) : cInv cI cT o tA kA dr drI wk wkI sw swI aT aI Xd cd pl df tx (kp ++ [r]) rs (wd_up (wd_up w kA (e_refs cT 12 (fun k => ((kp ++ [r])[k]?).map aT))) o (e_obj tA kA (nI (kp ++ [r]).length) dr wk sw cd pl)) := by
  obtain ⟨h1, h2, h3, ⟨h4, h4'⟩, ⟨X5, h5⟩, ⟨X6, h6⟩, ⟨n1, n2, n3, n4, n5, n6, n7⟩, h8, h9, h10⟩ := h
  have hl : ∀ r', live tx (kp ++ [r]) r' → live tx kp r' := by
    rintro r' (q | q)
    · exact Or.inl q
    · rcases List.mem_append.mp q with q | q
      · exact Or.inr q
      · rw [List.mem_singleton] at q; subst q; exact hr
  have same : ∀ (p : Nat), p ≠ o → p ≠ kA → (wd_up (wd_up w kA (e_refs cT 12 (fun k => ((kp ++ [r])[k]?).map aT))) o (e_obj tA kA (nI (kp ++ [r]).length) dr wk sw cd pl)) p = w p := fun p e1 e2 => by rw [wd_up_ne _ _ e1, wd_up_ne _ _ e2]
  have row : ∀ {a b m : Nat} {X : Rw}, rowAt w a b cI m X → rowAt (wd_up (wd_up w kA (e_refs cT 12 (fun k => ((kp ++ [r])[k]?).map aT))) o (e_obj tA kA (nI (kp ++ [r]).length) dr wk sw cd pl)) a b cI m X := fun hX => hX.same (same _ (wd_ne hX.1 h1 (by simp)) (wd_ne hX.1 h3 (by simp))) (same _ (wd_ne hX.2.1 h1 (by simp)) (wd_ne hX.2.1 h3 (by simp)))
  refine ⟨wd_up_self _ _ _, (same tA (wd_ne h2 h1 (by simp)) n1).trans h2, ?_, ⟨row h4, h4'⟩, ⟨X5, row h5⟩, ⟨X6, row h6⟩, ⟨n1, n2, n3, n4, n5, n6, n7⟩, fun r' hr' => ?_, fun a b ha hb => h9 a b (hl a ha) (hl b hb), fun a b ha hb => h10 a b (hl a ha) (hl b hb)⟩
  · rw [wd_up_ne _ _ (wd_ne h3 h1 (by simp)), wd_up_self]
  · obtain ⟨a1, a2, a3⟩ := h8 r' (hl r' hr')
    exact ⟨(same _ (wd_ne a1 h1 (by simp)) (wd_ne a1 h3 (by simp))).trans a1, (same _ (wd_ne a2 h1 (by simp)) (wd_ne a2 h3 (by simp))).trans a2, a3⟩
end CINV3
theorem live_upK {tx : Nat → Option Nat} {kp : List Nat} {t k r' : Nat} (hk : kp[k]? = some r') {r : Nat} (h : live (va_up tx t (some r')) kp r) : live tx kp r := by
  rcases h with ⟨t', ht⟩ | h
  · by_cases e : t' = t
    · subst e; simp [va_up] at ht; subst ht; exact Or.inr (List.mem_of_getElem? hk)
    · simp [va_up, e] at ht; exact Or.inl ⟨t', ht⟩
  · exact Or.inr h
def u_kn (x : Option (Nat × Nat)) : Int32 := match x with
  | none => -1
  | some (k, _) => nI k
theorem rl_back {kd : Int32} {X Y : Rw} (h0 : kd = 0 → X.2 ≤ 120) (h : X.2 ≤ 240) : rl (itN (fun j Z => if kd = 0 then r_uni 240 (X.1 (X.2 - 1 - j)) Z else r_add 240 (X.1 (X.2 - 1 - j)) Z) X.2 (r_nil Y)) = (rl X).reverse.flatMap (fun p => if kd = 0 then u_units p else [p]) := by
  by_cases hk : kd = 0
  · have h1 := (rl_it (n := 240) (b := 2) (F := fun j Z => if kd = 0 then r_uni 240 (X.1 (X.2 - 1 - j)) Z else r_add 240 (X.1 (X.2 - 1 - j)) Z) (L := fun j => u_units (X.1 (X.2 - 1 - j))) (m := X.2) (fun _ _ => u_units_le _) (fun k _ Z hZ => by rw [if_pos hk]; exact rl_uni hZ) (X := r_nil Y) (by have := h0 hk; rw [r_nil]; omega)).1
    rw [h1, rl_nil, List.nil_append, fm_rev (X := X) u_units]
    simp only [if_pos hk]
  · have h1 := (rl_it (n := 240) (b := 1) (F := fun j Z => if kd = 0 then r_uni 240 (X.1 (X.2 - 1 - j)) Z else r_add 240 (X.1 (X.2 - 1 - j)) Z) (L := fun j => [X.1 (X.2 - 1 - j)]) (m := X.2) (fun _ _ => by simp) (fun k _ Z hZ => by rw [if_neg hk]; exact rl_add (by simp at hZ; omega)) (X := r_nil Y) (by rw [r_nil]; omega)).1
    rw [h1, rl_nil, List.nil_append, fm_rev (X := X) (fun p => [p])]
    simp only [if_neg hk]
