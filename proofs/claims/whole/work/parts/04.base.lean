/-! What is known of the tables at every state of a run: classes, the arrays of ints and of Texts, two links across the nest, that an int array may be cloned -/
def gK (D : va_G) (cI cT : ClassId) (s : State) : Prop := va_K D vwCl [(cI, .int), (cT, .object RX1)] s ∧ va_AO RX1 s ∧ va_Nw (.methodLinkNest RX0 26 yX2_isInsidePair RX2) s ∧ va_Nw (.methodLinkNest RX0 30 yX2_pairedPoint RX2) s ∧ va_Nw (.castable "[I" "java/lang/Cloneable") s
theorem gK_ok {D : va_G} {cI cT : ClassId} : wd_Kok (gK D cI cT) :=
  ⟨fun s U h hW => ⟨va_K.moved hW.alike h.1, va_AO.moved hW.alike h.2.1, va_Nw.warmM hW h.2.2.1, va_Nw.warmM hW h.2.2.2.1, va_Nw.warmC hW h.2.2.2.2⟩,
   fun U g mk a h => ⟨va_K.moved (u := U) (U := U.calling g mk a) (Vm.Alike.refl U.vm) h.1, va_AO.moved (u := U) (U := U.calling g mk a) (Vm.Alike.refl U.vm) h.2.1, va_Nw.same (u := U) rfl rfl h.2.2.1, va_Nw.same (u := U) rfl rfl h.2.2.2.1, va_Nw.same (u := U) rfl rfl h.2.2.2.2⟩⟩
/-! A Row of the class: an object and its array of ints -/
abbrev e_row (rI c : Nat) : va_E := .inr (0, [.ref rI, .int (nI c)])
abbrev e_ints (cI : ClassId) (n : Nat) (f : Nat → Int32) : va_E := .inl (cI, n, .inl f)
def rowAt (w : Wd) (r rI : Nat) (cI : ClassId) (n : Nat) (X : Rw) : Prop := w r = some (e_row rI X.2) ∧ w rI = some (e_ints cI n X.1) ∧ X.2 ≤ n ∧ n ≤ 240
def rowSet (w : Wd) (r rI : Nat) (cI : ClassId) (n : Nat) (X : Rw) : Wd := wd_up (wd_up w rI (e_ints cI n X.1)) r (e_row rI X.2)
theorem rowAt.ne {w : Wd} {r rI : Nat} {cI : ClassId} {n : Nat} {X : Rw} (h : rowAt w r rI cI n X) : r ≠ rI := wd_ne h.1 h.2.1 (by intro h9; cases h9)
theorem rowSet_self {w : Wd} {r rI : Nat} {cI : ClassId} {n : Nat} {X : Rw} (h : rowAt w r rI cI n X) : rowSet w r rI cI n X = w := by
  funext q
  by_cases h1 : q = r
  · subst h1; rw [rowSet, wd_up_self, h.1]
  · rw [rowSet, wd_up_ne _ _ h1]
    by_cases h2 : q = rI
    · subst h2; rw [wd_up_self, h.2.1]
    · rw [wd_up_ne _ _ h2]
theorem rowSet_at {w : Wd} {r rI : Nat} {cI : ClassId} {n : Nat} {X : Rw} (h : r ≠ rI) (h1 : X.2 ≤ n) (h2 : n ≤ 240) : rowAt (rowSet w r rI cI n X) r rI cI n X :=
  ⟨wd_up_self _ _ _, by rw [rowSet, wd_up_ne _ _ (Ne.symm h), wd_up_self], h1, h2⟩
theorem rowSet_ne {w : Wd} {r rI q : Nat} {cI : ClassId} {n : Nat} {X : Rw} (h1 : q ≠ r) (h2 : q ≠ rI) : rowSet w r rI cI n X q = w q := by rw [rowSet, wd_up_ne _ _ h1, wd_up_ne _ _ h2]
theorem rowSet_twice {w : Wd} {r rI : Nat} {cI : ClassId} {n : Nat} {X Y : Rw} : rowSet (rowSet w r rI cI n X) r rI cI n Y = rowSet w r rI cI n Y := by
  funext q
  by_cases h1 : q = r
  · subst h1; rw [rowSet, wd_up_self, rowSet, wd_up_self]
  · by_cases h2 : q = rI
    · subst h2
      rw [rowSet, wd_up_ne _ _ h1, wd_up_self, rowSet, wd_up_ne _ _ h1, wd_up_self]
    · rw [rowSet_ne h1 h2, rowSet_ne h1 h2, rowSet_ne h1 h2]
theorem i_le (a b : Int32) : (a ≤ b) = ¬ (b < a) := by
  apply propext
  rw [Int32.le_iff_toInt_le, Int32.lt_iff_toInt_lt]
  omega
