theorem u_kl_hit' {rs : Rws} {xs : List Int32} {kp : List Nat} {k r : Nat} (hk : kp[k]? = some r) (h : (rs r).2 = xs) : u_kl rs xs (kp.drop k) k = some (k, r) := by
  obtain ⟨h1, h2⟩ := List.getElem?_eq_some_iff.mp hk
  subst h2
  exact u_kl_hit h1 h
theorem u_kl_miss' {rs : Rws} {xs : List Int32} {kp : List Nat} {k r : Nat} (hk : kp[k]? = some r) (h : ¬ (rs r).2 = xs) : u_kl rs xs (kp.drop k) k = u_kl rs xs (kp.drop (k + 1)) (k + 1) := by
  obtain ⟨h1, h2⟩ := List.getElem?_eq_some_iff.mp hk
  subst h2
  exact u_kl_miss h1 h
theorem nI_ne_m1 {k : Nat} (h : k < 2 ^ 31) : ¬ nI k = -1 := fun e => by
  have := congrArg Int32.toInt e
  rw [nI_toInt h] at this
  have e2 : (-1 : Int32).toInt = -1 := rfl
  omega
