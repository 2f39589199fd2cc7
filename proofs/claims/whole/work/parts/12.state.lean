/-! The mathematical state: code, place, draft, which row a text has, the kept ones' rows, what the rows hold -/
abbrev Rws : Type := Nat → Int32 × List Int32
abbrev Sg : Type := Int32 × Int32 × List Int32 × (Nat → Option Nat) × List Nat × Rws
def lf (xs : List Int32) : Nat → Int32 := fun k => xs.getD k 0
def rl (X : Rw) : List Int32 := (List.range X.2).map X.1
abbrev e_list (cI : ClassId) (xs : List Int32) : va_E := e_ints cI xs.length (lf xs)
def live (tx : Nat → Option Nat) (kp : List Nat) (r : Nat) : Prop := (∃ t, tx t = some r) ∨ r ∈ kp
/-- an array's contents count up to its length alone -/
theorem cell_congr {cI : ClassId} {n : Nat} {f f' : Nat → Int32} (h : ∀ k, k < n → f k = f' k) : vp_cell cI (n, .inl f) = vp_cell cI (n, .inl f') := by
  rw [vp_cell_i, vp_cell_i]
  unfold arrV
  congr 2
  funext j
  show Value.int (f j.val) = Value.int (f' j.val)
  rw [h j.val j.isLt]
theorem va_pl_at {L : List Nat} {f : Nat → va_E} {k : Nat} {q : Nat × va_E} (h : (va_pl L f)[k]? = some q) : L[k]? = some q.1 ∧ q.2 = f q.1 := by
  unfold va_pl at h
  rw [List.getElem?_map] at h
  cases hk : L[k]? with
  | none => rw [hk] at h; cases h
  | some b => rw [hk] at h; cases h; exact ⟨rfl, rfl⟩
theorem va_pl_mk {L : List Nat} {f : Nat → va_E} {k b : Nat} (h : L[k]? = some b) : (va_pl L f)[k]? = some (b, f b) := by
  unfold va_pl
  rw [List.getElem?_map, h]
  rfl
theorem wd_norm {D : va_G} {cl : List vw_C} {A : Nat → Prop} {w : Wd} {H : Heap} {a n : Nat} {cI : ClassId} {f f' : Nat → Int32} (hW : wd_P D cl A w H) (ha : w a = some (e_ints cI n f)) (h : ∀ k, k < n → f k = f' k) : wd_P D cl A (wd_up w a (e_ints cI n f')) H := by
  obtain ⟨L, hL, hP, hD⟩ := hW
  refine ⟨L, fun b => ?_, fun k q hk => ?_, fun i j p q hi hj he => ?_, fun k q hk => ?_⟩
  · rw [hL b]
    by_cases hb : b = a
    · subst hb; simp [wd_up, ha]
    · simp [wd_up, hb]
  · obtain ⟨h1, h2⟩ := va_pl_at hk
    have h3 := hP k _ (va_pl_mk (f := wd_f w) h1)
    by_cases hb : q.1 = a
    · rw [show q = (q.1, q.2) from rfl, h2, wd_f_up, hb]
      rw [hb] at h3
      have h4 : wd_f w a = e_ints cI n f := by simp [wd_f, ha]
      rw [h4] at h3
      have h5 : va_up (wd_f w) a (e_ints cI n f') a = e_ints cI n f' := by simp [va_up]
      rw [h5]
      show H[a]? = some (vp_cell cI (n, .inl f'))
      rw [← cell_congr h]
      exact h3
    · rw [show q = (q.1, q.2) from rfl, h2, wd_f_up]
      have h5 : va_up (wd_f w) a (e_ints cI n f') q.1 = wd_f w q.1 := by simp [va_up, hb]
      rw [h5]
      exact h3
  · obtain ⟨h1, -⟩ := va_pl_at hi
    obtain ⟨h2, -⟩ := va_pl_at hj
    exact hD.1 i j _ _ (va_pl_mk (f := wd_f w) h1) (va_pl_mk (f := wd_f w) h2) he
  · obtain ⟨h1, -⟩ := va_pl_at hk
    exact hD.2 k (q.1, wd_f w q.1) (va_pl_mk (f := wd_f w) h1)
/-- the class's world: its object at o, the cells that it reaches -/
def cInv (cI cT : ClassId) (o tA kA dr drI wk wkI sw swI : Nat) (aT aI : Nat → Nat) (Xd : Rw) (cd pl : Int32) (df : List Int32) (tx : Nat → Option Nat) (kp : List Nat) (rs : Rws) (w : Wd) : Prop :=
  w o = some (e_obj tA kA (nI kp.length) dr wk sw cd pl) ∧ w tA = some (e_refs cT 10 (fun t => (tx t).map aT)) ∧ w kA = some (e_refs cT 12 (fun k => (kp[k]?).map aT)) ∧
  (rowAt w dr drI cI 60 Xd ∧ rl Xd = df) ∧ (∃ X, rowAt w wk wkI cI 240 X) ∧ (∃ X, rowAt w sw swI cI 240 X) ∧
  (tA ≠ kA ∧ dr ≠ wk ∧ dr ≠ sw ∧ wk ≠ sw ∧ drI ≠ wkI ∧ drI ≠ swI ∧ wkI ≠ swI) ∧
  (∀ r, live tx kp r → w (aT r) = some (e_text (rs r).1 (aI r)) ∧ w (aI r) = some (e_list cI (rs r).2) ∧ aI r ≠ drI ∧ aI r ≠ wkI ∧ aI r ≠ swI) ∧
  (∀ r r', live tx kp r → live tx kp r' → aT r = aT r' → r = r') ∧ ∀ r r', live tx kp r → live tx kp r' → aI r = aI r' → r = r'
def InvC (cI cT : ClassId) (o : Nat) (S : Sg) (w : Wd) : Prop := ∃ tA kA dr drI wk wkI sw swI aT aI Xd, cInv cI cT o tA kA dr drI wk wkI sw swI aT aI Xd S.1 S.2.1 S.2.2.1 S.2.2.2.1 S.2.2.2.2.1 S.2.2.2.2.2 w
section CINV
variable {cI cT : ClassId} {o tA kA dr drI wk wkI sw swI : Nat} {aT aI : Nat → Nat} {Xd : Rw} {cd pl : Int32} {df : List Int32} {tx : Nat → Option Nat} {kp : List Nat} {rs : Rws} {w w' : Wd}
/-- the cells of the world that are neither a row's nor the object's: as they were; then the rows and the object anew -/
theorem cInv.mk' (h : cInv cI cT o tA kA dr drI wk wkI sw swI aT aI Xd cd pl df tx kp rs w) {cd' pl' : Int32} {Xd' : Rw} (hs : ∀ q, q ≠ o → q ≠ dr → q ≠ drI → q ≠ wk → q ≠ wkI → q ≠ sw → q ≠ swI → w' q = w q)
    (ho : w' o = some (e_obj tA kA (nI kp.length) dr wk sw cd' pl')) (hd : rowAt w' dr drI cI 60 Xd') (hw : ∃ X, rowAt w' wk wkI cI 240 X) (hs2 : ∃ X, rowAt w' sw swI cI 240 X) : cInv cI cT o tA kA dr drI wk wkI sw swI aT aI Xd' cd' pl' (rl Xd') tx kp rs w' := by
  obtain ⟨h1, h2, h3, ⟨h4, h4'⟩, ⟨X5, h5⟩, ⟨X6, h6⟩, h7, h8, h9, h10⟩ := h
  refine ⟨ho, ?_, ?_, ⟨hd, rfl⟩, hw, hs2, h7, fun r hr => ?_, h9, h10⟩
  · rw [hs tA (wd_ne h2 h1 (by simp)) (wd_ne h2 h4.1 (by simp)) (wd_ne h2 h4.2.1 (by simp)) (wd_ne h2 h5.1 (by simp)) (wd_ne h2 h5.2.1 (by simp)) (wd_ne h2 h6.1 (by simp)) (wd_ne h2 h6.2.1 (by simp))]; exact h2
  · rw [hs kA (wd_ne h3 h1 (by simp)) (wd_ne h3 h4.1 (by simp)) (wd_ne h3 h4.2.1 (by simp)) (wd_ne h3 h5.1 (by simp)) (wd_ne h3 h5.2.1 (by simp)) (wd_ne h3 h6.1 (by simp)) (wd_ne h3 h6.2.1 (by simp))]; exact h3
  · obtain ⟨a1, a2, a3, a4, a5⟩ := h8 r hr
    refine ⟨?_, ?_, a3, a4, a5⟩
    · rw [hs _ (wd_ne a1 h1 (by simp)) (wd_ne a1 h4.1 (by simp)) (wd_ne a1 h4.2.1 (by simp)) (wd_ne a1 h5.1 (by simp)) (wd_ne a1 h5.2.1 (by simp)) (wd_ne a1 h6.1 (by simp)) (wd_ne a1 h6.2.1 (by simp))]; exact a1
    · rw [hs _ (wd_ne a2 h1 (by simp)) (wd_ne a2 h4.1 (by simp)) a3 (wd_ne a2 h5.1 (by simp)) a4 (wd_ne a2 h6.1 (by simp)) a5]; exact a2
theorem rowAt.same {r rI n : Nat} {X : Rw} (h : rowAt w r rI cI n X) (h1 : w' r = w r) (h2 : w' rI = w rI) : rowAt w' r rI cI n X := ⟨h1.trans h.1, h2.trans h.2.1, h.2.2⟩
theorem cInv.ob (h : cInv cI cT o tA kA dr drI wk wkI sw swI aT aI Xd cd pl df tx kp rs w) : w o = some (e_obj tA kA (nI kp.length) dr wk sw cd pl) := h.1
theorem cInv.obj (h : cInv cI cT o tA kA dr drI wk wkI sw swI aT aI Xd cd pl df tx kp rs w) (cd' pl' : Int32) : cInv cI cT o tA kA dr drI wk wkI sw swI aT aI Xd cd' pl' df tx kp rs (wd_up w o (e_obj tA kA (nI kp.length) dr wk sw cd' pl')) := by
  have h0 := h
  obtain ⟨h1, h2, h3, ⟨h4, h4'⟩, ⟨X5, h5⟩, ⟨X6, h6⟩, h7, h8, h9, h10⟩ := h0
  subst h4'
  exact h.mk' (fun q hq _ _ _ _ _ _ => wd_up_ne _ _ hq) (wd_up_self _ _ _) (h4.same (wd_up_ne _ _ (wd_ne h4.1 h1 (by simp))) (wd_up_ne _ _ (wd_ne h4.2.1 h1 (by simp)))) ⟨X5, h5.same (wd_up_ne _ _ (wd_ne h5.1 h1 (by simp))) (wd_up_ne _ _ (wd_ne h5.2.1 h1 (by simp)))⟩ ⟨X6, h6.same (wd_up_ne _ _ (wd_ne h6.1 h1 (by simp))) (wd_up_ne _ _ (wd_ne h6.2.1 h1 (by simp)))⟩
theorem cInv.draft (h : cInv cI cT o tA kA dr drI wk wkI sw swI aT aI Xd cd pl df tx kp rs w) (X : Rw) (hX : X.2 ≤ 60) : cInv cI cT o tA kA dr drI wk wkI sw swI aT aI X cd pl (rl X) tx kp rs (rowSet w dr drI cI 60 X) := by
  have h0 := h
  obtain ⟨h1, h2, h3, ⟨h4, h4'⟩, ⟨X5, h5⟩, ⟨X6, h6⟩, ⟨n1, n2, n3, n4, n5, n6, n7⟩, h8, h9, h10⟩ := h0
  exact h.mk' (fun q _ hq hq2 _ _ _ _ => rowSet_ne hq hq2) ((rowSet_ne (wd_ne h1 h4.1 (by simp)) (wd_ne h1 h4.2.1 (by simp))).trans h1) (rowSet_at h4.ne hX (by omega)) ⟨X5, h5.same (rowSet_ne (Ne.symm n2) (wd_ne h5.1 h4.2.1 (by simp))) (rowSet_ne (wd_ne h5.2.1 h4.1 (by simp)) (Ne.symm n5))⟩ ⟨X6, h6.same (rowSet_ne (Ne.symm n3) (wd_ne h6.1 h4.2.1 (by simp))) (rowSet_ne (wd_ne h6.2.1 h4.1 (by simp)) (Ne.symm n6))⟩
theorem cInv.work (h : cInv cI cT o tA kA dr drI wk wkI sw swI aT aI Xd cd pl df tx kp rs w) (X : Rw) (hX : X.2 ≤ 240) : cInv cI cT o tA kA dr drI wk wkI sw swI aT aI Xd cd pl df tx kp rs (rowSet w wk wkI cI 240 X) := by
  have h0 := h
  obtain ⟨h1, h2, h3, ⟨h4, h4'⟩, ⟨X5, h5⟩, ⟨X6, h6⟩, ⟨n1, n2, n3, n4, n5, n6, n7⟩, h8, h9, h10⟩ := h0
  subst h4'
  exact h.mk' (fun q _ _ _ hq hq2 _ _ => rowSet_ne hq hq2) ((rowSet_ne (wd_ne h1 h5.1 (by simp)) (wd_ne h1 h5.2.1 (by simp))).trans h1) (h4.same (rowSet_ne n2 (wd_ne h4.1 h5.2.1 (by simp))) (rowSet_ne (wd_ne h4.2.1 h5.1 (by simp)) n5)) ⟨X, rowSet_at h5.ne hX (by omega)⟩ ⟨X6, h6.same (rowSet_ne (Ne.symm n4) (wd_ne h6.1 h5.2.1 (by simp))) (rowSet_ne (wd_ne h6.2.1 h5.1 (by simp)) (Ne.symm n7))⟩
theorem cInv.second (h : cInv cI cT o tA kA dr drI wk wkI sw swI aT aI Xd cd pl df tx kp rs w) (X : Rw) (hX : X.2 ≤ 240) : cInv cI cT o tA kA dr drI wk wkI sw swI aT aI Xd cd pl df tx kp rs (rowSet w sw swI cI 240 X) := by
  have h0 := h
  obtain ⟨h1, h2, h3, ⟨h4, h4'⟩, ⟨X5, h5⟩, ⟨X6, h6⟩, ⟨n1, n2, n3, n4, n5, n6, n7⟩, h8, h9, h10⟩ := h0
  subst h4'
  exact h.mk' (fun q _ _ _ _ _ hq hq2 => rowSet_ne hq hq2) ((rowSet_ne (wd_ne h1 h6.1 (by simp)) (wd_ne h1 h6.2.1 (by simp))).trans h1) (h4.same (rowSet_ne n3 (wd_ne h4.1 h6.2.1 (by simp))) (rowSet_ne (wd_ne h4.2.1 h6.1 (by simp)) n6)) ⟨X5, h5.same (rowSet_ne n4 (wd_ne h5.1 h6.2.1 (by simp))) (rowSet_ne (wd_ne h5.2.1 h6.1 (by simp)) n7)⟩ ⟨X, rowSet_at h6.ne hX (by omega)⟩
/-- the texts' rows anew: no row comes alive -/
theorem cInv.txs (h : cInv cI cT o tA kA dr drI wk wkI sw swI aT aI Xd cd pl df tx kp rs w) (tx' : Nat → Option Nat) (hl : ∀ r, live tx' kp r → live tx kp r) : cInv cI cT o tA kA dr drI wk wkI sw swI aT aI Xd cd pl df tx' kp rs (wd_up w tA (e_refs cT 10 (fun t => (tx' t).map aT))) := by
  obtain ⟨h1, h2, h3, ⟨h4, h4'⟩, ⟨X5, h5⟩, ⟨X6, h6⟩, ⟨n1, n2, n3, n4, n5, n6, n7⟩, h8, h9, h10⟩ := h
  refine ⟨(wd_up_ne _ _ (wd_ne h1 h2 (by simp))).trans h1, wd_up_self _ _ _, (wd_up_ne _ _ (Ne.symm n1)).trans h3, ⟨h4.same (wd_up_ne _ _ (wd_ne h4.1 h2 (by simp))) (wd_up_ne _ _ (wd_ne h4.2.1 h2 (by simp))), h4'⟩, ⟨X5, h5.same (wd_up_ne _ _ (wd_ne h5.1 h2 (by simp))) (wd_up_ne _ _ (wd_ne h5.2.1 h2 (by simp)))⟩, ⟨X6, h6.same (wd_up_ne _ _ (wd_ne h6.1 h2 (by simp))) (wd_up_ne _ _ (wd_ne h6.2.1 h2 (by simp)))⟩, ⟨n1, n2, n3, n4, n5, n6, n7⟩, fun r hr => ?_, fun r r' hr hr' => h9 r r' (hl r hr) (hl r' hr'), fun r r' hr hr' => h10 r r' (hl r hr) (hl r' hr')⟩
  obtain ⟨a1, a2, a3⟩ := h8 r (hl r hr)
  exact ⟨(wd_up_ne _ _ (wd_ne a1 h2 (by simp))).trans a1, (wd_up_ne _ _ (wd_ne a2 h2 (by simp))).trans a2, a3⟩
/-- a live row's items anew -/
theorem cInv.items (h : cInv cI cT o tA kA dr drI wk wkI sw swI aT aI Xd cd pl df tx kp rs w) {r : Nat} (hr : live tx kp r) (xs : List Int32) : cInv cI cT o tA kA dr drI wk wkI sw swI aT aI Xd cd pl df tx kp (va_up rs r ((rs r).1, xs)) (wd_up w (aI r) (e_list cI xs)) := by
  obtain ⟨h1, h2, h3, ⟨h4, h4'⟩, ⟨X5, h5⟩, ⟨X6, h6⟩, n, h8, h9, h10⟩ := h
  obtain ⟨a1, a2, a3, a4, a5⟩ := h8 r hr
  refine ⟨(wd_up_ne _ _ (wd_ne h1 a2 (by simp))).trans h1, (wd_up_ne _ _ (wd_ne h2 a2 (by simp))).trans h2, (wd_up_ne _ _ (wd_ne h3 a2 (by simp))).trans h3, ⟨h4.same (wd_up_ne _ _ (wd_ne h4.1 a2 (by simp))) (wd_up_ne _ _ (Ne.symm a3)), h4'⟩, ⟨X5, h5.same (wd_up_ne _ _ (wd_ne h5.1 a2 (by simp))) (wd_up_ne _ _ (Ne.symm a4))⟩, ⟨X6, h6.same (wd_up_ne _ _ (wd_ne h6.1 a2 (by simp))) (wd_up_ne _ _ (Ne.symm a5))⟩, n, fun r' hr' => ?_, h9, h10⟩
  obtain ⟨b1, b2, b3⟩ := h8 r' hr'
  refine ⟨?_, ?_, b3⟩
  · rw [wd_up_ne _ _ (wd_ne b1 a2 (by simp)), b1]
    by_cases e : r' = r
    · subst e; simp [va_up]
    · simp [va_up, e]
  · by_cases e : r' = r
    · subst e; rw [wd_up_self]; simp [va_up]
    · rw [wd_up_ne _ _ (fun q => e (h10 r' r hr' hr q)), b2]; simp [va_up, e]
/-- a new text at t: row r, which was not alive; its object q, its array q2 -/
theorem cInv.set (h : cInv cI cT o tA kA dr drI wk wkI sw swI aT aI Xd cd pl df tx kp rs w) {r t q q2 : Nat} {kd : Int32} {xs : List Int32} (hr : ¬ live tx kp r) (hq : w q = none) (hq2 : w q2 = none) (hn : q ≠ q2)
    (ho : w' o = some (e_obj tA kA (nI kp.length) dr wk sw 0 pl)) (htA : w' tA = some (e_refs cT 10 (va_up (fun t => (tx t).map aT) t (some q)))) (h1' : w' q = some (e_text kd q2)) (h2' : w' q2 = some (e_list cI xs)) (hs : ∀ p, p ≠ o → p ≠ tA → p ≠ q → p ≠ q2 → w' p = w p) :
    cInv cI cT o tA kA dr drI wk wkI sw swI (va_up aT r q) (va_up aI r q2) Xd 0 pl df (va_up tx t (some r)) kp (va_up rs r (kd, xs)) w' := by
  obtain ⟨h1, h2, h3, ⟨h4, h4'⟩, ⟨X5, h5⟩, ⟨X6, h6⟩, n, h8, h9, h10⟩ := h
  have same : ∀ (p : Nat) (x : va_E), w p = some x → p ≠ o → p ≠ tA → w' p = w p := fun p x hp e1 e2 => hs p e1 e2 (wd_fresh hq hp) (wd_fresh hq2 hp)
  have hlv : ∀ r', live (va_up tx t (some r)) kp r' → r' = r ∨ live tx kp r' := by
    intro r' hr'
    rcases hr' with ⟨t', ht'⟩ | hk
    · by_cases e : t' = t
      · subst e; simp [va_up] at ht'; exact Or.inl ht'.symm
      · simp [va_up, e] at ht'; exact Or.inr (Or.inl ⟨t', ht'⟩)
    · exact Or.inr (Or.inr hk)
  have row : ∀ {a b m : Nat} {X : Rw}, rowAt w a b cI m X → rowAt w' a b cI m X := fun hX => hX.same (same _ _ hX.1 (wd_ne hX.1 h1 (by simp)) (wd_ne hX.1 h2 (by simp))) (same _ _ hX.2.1 (wd_ne hX.2.1 h1 (by simp)) (wd_ne hX.2.1 h2 (by simp)))
  refine ⟨ho, ?_, ?_, ⟨row h4, h4'⟩, ⟨X5, row h5⟩, ⟨X6, row h6⟩, n, fun r' hr' => ?_, fun r' r'' hr' hr'' => ?_, fun r' r'' hr' hr'' => ?_⟩
  · rw [htA]
    congr 5
    funext t'
    by_cases e : t' = t
    · subst e; simp [va_up]
    · simp only [va_up, e, if_false]
      cases htx : tx t' with
      | none => rfl
      | some r' =>
        have hne : r' ≠ r := fun e2 => hr (Or.inl ⟨t', by rw [htx, e2]⟩)
        simp [va_up, hne]
  · rw [same kA _ h3 (wd_ne h3 h1 (by simp)) (Ne.symm n.1), h3]
    congr 5
    funext k
    cases hk : kp[k]? with
    | none => rfl
    | some r' =>
      have hne : r' ≠ r := fun e2 => hr (Or.inr (by rw [← e2]; exact List.mem_of_getElem? hk))
      simp [va_up, hne]
  · rcases hlv r' hr' with e | hl
    · subst e
      refine ⟨by simp [va_up, h1'], by simp [va_up, h2'], ?_, ?_, ?_⟩
      · simp only [va_up, if_true]; exact Ne.symm (wd_fresh hq2 h4.2.1)
      · simp only [va_up, if_true]; exact Ne.symm (wd_fresh hq2 h5.2.1)
      · simp only [va_up, if_true]; exact Ne.symm (wd_fresh hq2 h6.2.1)
    · have hne : r' ≠ r := fun e2 => hr (by rw [← e2]; exact hl)
      obtain ⟨a1, a2, a3⟩ := h8 r' hl
      simp only [va_up, hne, if_false]
      exact ⟨(same _ _ a1 (wd_ne a1 h1 (by simp)) (wd_ne a1 h2 (by simp))).trans a1, (same _ _ a2 (wd_ne a2 h1 (by simp)) (wd_ne a2 h2 (by simp))).trans a2, a3⟩
  · rcases hlv r' hr' with e | hl <;> rcases hlv r'' hr'' with e' | hl'
    · intro _; rw [e, e']
    · have hne : r'' ≠ r := fun e2 => hr (by rw [← e2]; exact hl')
      subst e
      simp only [va_up, if_true, hne, if_false]
      intro he
      exact absurd he.symm (wd_fresh hq (h8 r'' hl').1)
    · have hne : r' ≠ r := fun e2 => hr (by rw [← e2]; exact hl)
      subst e'
      simp only [va_up, if_true, hne, if_false]
      intro he
      exact absurd he (wd_fresh hq (h8 r' hl).1)
    · have hne : r' ≠ r := fun e2 => hr (by rw [← e2]; exact hl)
      have hne' : r'' ≠ r := fun e2 => hr (by rw [← e2]; exact hl')
      simp only [va_up, hne, hne', if_false]
      exact h9 r' r'' hl hl'
  · rcases hlv r' hr' with e | hl <;> rcases hlv r'' hr'' with e' | hl'
    · intro _; rw [e, e']
    · have hne : r'' ≠ r := fun e2 => hr (by rw [← e2]; exact hl')
      subst e
      simp only [va_up, if_true, hne, if_false]
      intro he
      exact absurd he.symm (wd_fresh hq2 (h8 r'' hl').2.1)
    · have hne : r' ≠ r := fun e2 => hr (by rw [← e2]; exact hl)
      subst e'
      simp only [va_up, if_true, hne, if_false]
      intro he
      exact absurd he (wd_fresh hq2 (h8 r' hl).2.1)
    · have hne : r' ≠ r := fun e2 => hr (by rw [← e2]; exact hl)
      have hne' : r'' ≠ r := fun e2 => hr (by rw [← e2]; exact hl')
      simp only [va_up, hne, hne', if_false]
      exact h10 r' r'' hl hl'
end CINV
