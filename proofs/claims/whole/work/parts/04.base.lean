/-! What is known of the tables at every state of a run: classes, the arrays of ints and of Texts, two links across the nest, that an int array may be cloned -/
def gK (D : va_G) (cI cT : ClassId) (s : State) : Prop := va_K D vwCl [(cI, .int), (cT, .object RX1)] s ∧ va_AO RX1 s ∧ va_Nw (.methodLinkNest RX0 26 yX2_isInsidePair RX2) s ∧ va_Nw (.methodLinkNest RX0 30 yX2_pairedPoint RX2) s ∧ va_Nw (.castable "[I" "java/lang/Cloneable") s
theorem gK_ok {D : va_G} {cI cT : ClassId} : wd_Kok (gK D cI cT) :=
  ⟨fun s U h hW => ⟨va_K.moved hW.alike h.1, va_AO.moved hW.alike h.2.1, va_Nw.warmM hW h.2.2.1, va_Nw.warmM hW h.2.2.2.1, va_Nw.warmC hW h.2.2.2.2⟩,
   fun U g mk a h => ⟨va_K.moved (u := U) (U := U.calling g mk a) (Vm.Alike.refl U.vm) h.1, va_AO.moved (u := U) (U := U.calling g mk a) (Vm.Alike.refl U.vm) h.2.1, va_Nw.same (u := U) rfl rfl h.2.2.1, va_Nw.same (u := U) rfl rfl h.2.2.2.1, va_Nw.same (u := U) rfl rfl h.2.2.2.2⟩⟩
/-! A Row of the class: an object and its array of ints -/
abbrev e_row (rI c : Nat) : va_E := .inr (0, [.ref rI, .int (nI c)])
abbrev e_ints (cI : ClassId) (n : Nat) (f : Nat → Int32) : va_E := .inl (cI, n, .inl f)
def rowAt (w : Wd) (r rI : Nat) (cI : ClassId) (n : Nat) (X : Rw) : Prop := w r = some (e_row rI X.2) ∧ w rI = some (e_ints cI n X.1) ∧ X.2 ≤ n ∧ n ≤ 240
def rowSet (w : Wd) (r rI : Nat) (cI : ClassId) (n : Nat) (X : Rw) : Wd := wd_up (wd_up w rI (e_ints cI n X.1)) r (e_row rI X.2)
theorem rowAt.ne {w : Wd} {r rI : Nat} {cI : ClassId} {n : Nat} {X : Rw} (h : rowAt w r rI cI n X) : r ≠ rI := wd_ne h.1 h.2.1 (by intro h9; cases h9)
theorem rowSet_self {w : Wd} {r rI : Nat} {cI : ClassId} {n : Nat} {X : Rw} (h : rowAt w r rI cI n X) : rowSet w r rI cI n X = w := by
  funext q
  by_cases h1 : q = r
  · subst h1; rw [rowSet, wd_up_self, h.1]
  · rw [rowSet, wd_up_ne _ _ h1]
    by_cases h2 : q = rI
    · subst h2; rw [wd_up_self, h.2.1]
    · rw [wd_up_ne _ _ h2]
theorem rowSet_at {w : Wd} {r rI : Nat} {cI : ClassId} {n : Nat} {X : Rw} (h : r ≠ rI) (h1 : X.2 ≤ n) (h2 : n ≤ 240) : rowAt (rowSet w r rI cI n X) r rI cI n X :=
  ⟨wd_up_self _ _ _, by rw [rowSet, wd_up_ne _ _ (Ne.symm h), wd_up_self], h1, h2⟩
theorem rowSet_ne {w : Wd} {r rI q : Nat} {cI : ClassId} {n : Nat} {X : Rw} (h1 : q ≠ r) (h2 : q ≠ rI) : rowSet w r rI cI n X q = w q := by rw [rowSet, wd_up_ne _ _ h1, wd_up_ne _ _ h2]
theorem rowSet_twice {w : Wd} {r rI : Nat} {cI : ClassId} {n : Nat} {X Y : Rw} : rowSet (rowSet w r rI cI n X) r rI cI n Y = rowSet w r rI cI n Y := by
  funext q
  by_cases h1 : q = r
  · subst h1; rw [rowSet, wd_up_self, rowSet, wd_up_self]
  · by_cases h2 : q = rI
    · subst h2
      rw [rowSet, wd_up_ne _ _ h1, wd_up_self, rowSet, wd_up_ne _ _ h1, wd_up_self]
    · rw [rowSet_ne h1 h2, rowSet_ne h1 h2, rowSet_ne h1 h2]
theorem i_le (a b : Int32) : (a ≤ b) = ¬ (b < a) := by
  apply propext
  rw [Int32.le_iff_toInt_le, Int32.lt_iff_toInt_lt]
  omega
theorem i_add {a b : Int32} (h1 : -2147483648 ≤ a.toInt + b.toInt) (h2 : a.toInt + b.toInt < 2147483648) : (a + b).toInt = a.toInt + b.toInt := by
  rw [Int32.toInt_add, Int.bmod_eq_of_le] <;> omega
theorem i_sub {a b : Int32} (h1 : -2147483648 ≤ a.toInt - b.toInt) (h2 : a.toInt - b.toInt < 2147483648) : (a - b).toInt = a.toInt - b.toInt := by
  rw [Int32.toInt_sub, Int.bmod_eq_of_le] <;> omega
theorem i_rg (a : Int32) : -2147483648 ≤ a.toInt ∧ a.toInt < 2147483648 := ⟨Int32.le_toInt a, Int32.toInt_lt a⟩
theorem i_lt (a b : Int32) : (a < b) = (a.toInt < b.toInt) := propext Int32.lt_iff_toInt_lt
theorem i_l0 : (0 : Int32).toInt = 0 := rfl
theorem i_l1 : (1 : Int32).toInt = 1 := rfl
theorem in_k {k : Int32} {len : Nat} (h0 : ¬ k < 0) (h : k < nI len) (hl : len < 2 ^ 31) : vp_in k len := by
  rw [i_lt, i_l0] at h0
  rw [i_lt, nI_toInt hl] at h
  rw [vp_in_iff]
  omega
theorem in_pred {k : Int32} {len : Nat} (h0 : ¬ k < 1) (h : k < nI len) (hl : len < 2 ^ 31) : vp_in (k - 1) len := by
  rw [i_lt, i_l1] at h0
  rw [i_lt, nI_toInt hl] at h
  have := i_rg k
  rw [vp_in_iff, i_sub (by rw [i_l1]; omega) (by rw [i_l1]; omega), i_l1]
  omega
theorem in_k1 {k : Int32} {len : Nat} (h0 : ¬ k < 1) (h : k < nI len) (hl : len < 2 ^ 31) : vp_in k len := in_k (by rw [i_lt, i_l0]; rw [i_lt, i_l1] at h0; omega) h hl
theorem nI_m1 {len : Nat} (hl : len < 2 ^ 31) : (nI len - 1).toInt = (len : Int) - 1 := by
  rw [i_sub (by rw [nI_toInt hl, i_l1]; omega) (by rw [nI_toInt hl, i_l1]; omega), nI_toInt hl, i_l1]
theorem in_m1 {k : Int32} {len : Nat} (h0 : ¬ k < 0) (h : k < nI len - 1) (hl : len < 2 ^ 31) : vp_in k len ∧ vp_in (k + 1) len := by
  rw [i_lt, i_l0] at h0
  rw [i_lt, nI_m1 hl] at h
  have := i_rg k
  rw [vp_in_iff, vp_in_iff, i_add (by rw [i_l1]; omega) (by rw [i_l1]; omega), i_l1]
  omega
