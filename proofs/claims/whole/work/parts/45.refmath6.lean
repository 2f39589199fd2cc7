theorem upK (kp : List Nat) (r : Nat) : upd (kI kp) kp.length (nI r) = kI (kp ++ [r]) := by
  funext j
  unfold kI
  by_cases h : j = kp.length
  · subst h; rw [pk_us]; simp
  · rw [pk_un h]
    by_cases h2 : j < kp.length
    · rw [List.getElem?_append_left h2]
    · rw [List.getElem?_eq_none (l := kp) (by omega), List.getElem?_eq_none (l := kp ++ [r]) (by simp; omega)]
theorem kI_nil : kI [] = fun _ => 0 := by
  funext j
  rfl
theorem m1_ten {f : Nat → Int32} (h : ∀ j, j < 10 → f j = -1) : ∀ k, k < 10 → f k = (fun t => oI ((fun _ => none : Nat → Option Nat) t)) k := fun k hk => by rw [h k hk]; rfl
