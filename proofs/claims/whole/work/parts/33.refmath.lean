/-! For the reference: which row is free, what a new row holds -/
def u1 (tx : Nat → Option Nat) (r t : Nat) : Bool := (List.range t).any (fun t' => tx t' == some r)
def u2 (kp : List Nat) (r k : Nat) : Bool := (kp.take k).contains r
theorem u1_succ (tx : Nat → Option Nat) (r t : Nat) : u1 tx r (t + 1) = (u1 tx r t || (tx t == some r)) := by
  unfold u1
  rw [List.range_succ, List.any_append]
  simp
theorem u2_succ {kp : List Nat} {r k q : Nat} (h : kp[k]? = some q) : u2 kp r (k + 1) = (u2 kp r k || (q == r)) := by
  unfold u2
  rw [List.take_succ, h]
  rw [Bool.eq_iff_iff]
  simp [List.contains_iff_mem]
  constructor
  · rintro (h | h)
    · exact Or.inl h
    · exact Or.inr h.symm
  · rintro (h | h)
    · exact Or.inl h
    · exact Or.inr h.symm
theorem u12 (tx : Nat → Option Nat) (kp : List Nat) (r : Nat) : (u1 tx r 10 || u2 kp r kp.length) = u_used tx kp r := by
  unfold u1 u2 u_used
  rw [List.take_length]
theorem j_bt {P : Prop} [Decidable P] (h : P) : (1 : Int32) = j_b P := by rw [j_b, if_pos h]
theorem j_bf {P : Prop} [Decidable P] (h : ¬ P) : (0 : Int32) = j_b P := by rw [j_b, if_neg h]
theorem oI_eq {x : Option Nat} {r : Nat} (hx : ∀ q, x = some q → q < 24) (hr : r < 24) : oI x = nI r ↔ x = some r := by
  cases x with
  | none =>
    constructor
    · intro h; exact absurd h.symm (nI_ne_m1 (by omega))
    · intro h; cases h
  | some q =>
    have := hx q rfl
    show nI q = nI r ↔ _
    rw [nI_eq (by omega) (by omega)]
    simp
theorem kI_at {kp : List Nat} {k r : Nat} (h : kp[k]? = some r) : kI kp k = nI r := by unfold kI; rw [h]
theorem upT (tx : Nat → Option Nat) (t r : Nat) : upd (fun t => oI (tx t)) t (nI r) = fun t' => oI (va_up tx t (some r) t') := by
  funext j
  by_cases h : j = t
  · subst h; rw [pk_us]; simp [va_up, oI]
  · rw [pk_un h]; simp [va_up, h]
theorem upTN (tx : Nat → Option Nat) (t : Nat) : upd (fun t => oI (tx t)) t (-1) = fun t' => oI (va_up tx t none t') := by
  funext j
  by_cases h : j = t
  · subst h; rw [pk_us]; simp [va_up, oI]
  · rw [pk_un h]; simp [va_up, h]
theorem upTO (tx : Nat → Option Nat) (t : Nat) (x : Option Nat) : upd (fun t => oI (tx t)) t (oI x) = fun t' => oI (va_up tx t x t') := by
  funext j
  by_cases h : j = t
  · subst h; rw [pk_us]; simp [va_up]
  · rw [pk_un h]; simp [va_up, h]
theorem upS (rs : Rws) (r : Nat) (kd : Int32) (xs : List Int32) : upd (fun r => (rs r).1) r kd = fun q => (va_up rs r (kd, xs) q).1 := by
  funext j
  by_cases h : j = r
  · subst h; rw [pk_us]; simp [va_up]
  · rw [pk_un h]; simp [va_up, h]
theorem upM (rs : Rws) (r : Nat) (kd : Int32) (xs : List Int32) {n : Nat} (h : xs.length = n) : upd (fun r => nI (rs r).2.length) r (nI n) = fun q => nI (va_up rs r (kd, xs) q).2.length := by
  subst h
  funext j
  by_cases h : j = r
  · subst h; rw [pk_us]; simp [va_up]
  · rw [pk_un h]; simp [va_up, h]
/-- k items laid from the place b on -/
def layN (b : Nat) (g : Nat → Int32) (k : Nat) (f : Nat → Int32) : Nat → Int32 := itN (fun j f => upd f (b + j) (g j)) k f
theorem layN_in {b : Nat} {g f : Nat → Int32} : ∀ {k j : Nat}, j < k → layN b g k f (b + j) = g j
  | 0, _, h => absurd h (Nat.not_lt_zero _)
  | k + 1, j, h => by
    show upd (layN b g k f) (b + k) (g k) (b + j) = g j
    by_cases e : j = k
    · subst e; exact pk_us
    · rw [pk_un (by omega)]; exact layN_in (by omega)
theorem layN_out {b : Nat} {g f : Nat → Int32} : ∀ {k q : Nat}, q < b ∨ b + k ≤ q → layN b g k f q = f q
  | 0, _, _ => rfl
  | k + 1, q, h => by
    show upd (layN b g k f) (b + k) (g k) q = f q
    rw [pk_un (by omega)]
    exact layN_out (by omega)
theorem rIt_new {rs : Rws} {fI g : Nat → Int32} {r n : Nat} {kd : Int32} (h : rIt rs fI) (hr : r < 24) (hn : n ≤ 240) : rIt (va_up rs r (kd, rl (g, n))) (layN (240 * r) g n fI) := by
  intro q hq
  by_cases e : q = r
  · subst e
    have e1 : va_up rs q (kd, rl (g, n)) q = (kd, rl (g, n)) := by simp [va_up]
    rw [e1]
    refine ⟨by rw [rl_len]; exact hn, fun k hk => ?_⟩
    rw [rl_len] at hk
    rw [layN_in hk, lf, rl_getD hk]
  · have e1 : va_up rs r (kd, rl (g, n)) q = rs q := by simp [va_up, e]
    rw [e1]
    refine ⟨(h q hq).1, fun k hk => ?_⟩
    have := (h q hq).1
    rw [layN_out (by omega)]
    exact (h q hq).2 k hk
theorem rIt_set {rs : Rws} {fI : Nat → Int32} {r k : Nat} {v : Int32} (h : rIt rs fI) (hr : r < 24) (hk : k < (rs r).2.length) : rIt (va_up rs r ((rs r).1, (rs r).2.set k v)) (upd fI (240 * r + k) v) := by
  intro q hq
  by_cases e : q = r
  · subst e
    have e1 : va_up rs q ((rs q).1, (rs q).2.set k v) q = ((rs q).1, (rs q).2.set k v) := by simp [va_up]
    rw [e1]
    refine ⟨by rw [List.length_set]; exact (h q hq).1, fun j hj => ?_⟩
    rw [List.length_set] at hj
    rw [← lf_set hk]
    by_cases e2 : j = k
    · subst e2; rw [pk_us, pk_us]
    · rw [pk_un (by omega), pk_un e2]; exact (h q hq).2 j hj
  · have e1 : va_up rs r ((rs r).1, (rs r).2.set k v) q = rs q := by simp [va_up, e]
    rw [e1]
    refine ⟨(h q hq).1, fun j hj => ?_⟩
    have := (h q hq).1
    have := (h r hr).1
    rw [pk_un (by omega)]
    exact (h q hq).2 j hj
theorem u_pts_one {X : Rw} {k : Nat} (h : k < X.2) (hn : ¬ (j_high (X.1 k) ∧ k + 1 < X.2 ∧ j_low (X.1 (k + 1)))) : u_pts ((rl X).drop k) = X.1 k :: u_pts ((rl X).drop (k + 1)) := by
  have hk : k < (rl X).length := by rw [rl_len]; exact h
  have e : (rl X)[k] = X.1 k := by simp [rl]
  rw [List.drop_eq_getElem_cons hk, e]
  by_cases h2 : k + 1 < X.2
  · have hk2 : k + 1 < (rl X).length := by rw [rl_len]; exact h2
    have e2 : (rl X)[k + 1] = X.1 (k + 1) := by simp [rl]
    rw [List.drop_eq_getElem_cons hk2, e2, u_pts, if_neg (fun q => hn ⟨q.1, h2, q.2⟩)]
  · rw [List.drop_eq_nil_of_le (by rw [rl_len]; omega)]
    rfl
theorem u_pts_two {X : Rw} {k : Nat} (h1 : j_high (X.1 k)) (h2 : k + 1 < X.2) (h3 : j_low (X.1 (k + 1))) : u_pts ((rl X).drop k) = (65536 + (X.1 k - 55296) * 1024 + X.1 (k + 1) - 56320) :: u_pts ((rl X).drop (k + 2)) := by
  have hk : k < (rl X).length := by rw [rl_len]; omega
  have hk2 : k + 1 < (rl X).length := by rw [rl_len]; exact h2
  have e : (rl X)[k] = X.1 k := by simp [rl]
  have e2 : (rl X)[k + 1] = X.1 (k + 1) := by simp [rl]
  rw [List.drop_eq_getElem_cons hk, List.drop_eq_getElem_cons hk2, e, e2, u_pts, if_pos ⟨h1, h3⟩]
  congr 1
  simp only [Int32.sub_eq_add_neg, Int32.add_assoc]
theorem r_uni_cnt {n : Nat} {p : Int32} {Y : Rw} : (r_uni n p Y).2 ≤ Y.2 + 2 := by
  have h2 : ∀ (x : Int32) (Y : Rw), (r_add n x Y).2 ≤ Y.2 + 1 := fun x Y => by unfold r_add; split <;> simp
  unfold r_uni
  split
  · have := h2 p Y; omega
  · have a := h2 (56320 + (p - 65536 - (p - 65536) / 1024 * 1024)) (r_add n (55296 + (p - 65536) / 1024) Y)
    have b := h2 (55296 + (p - 65536) / 1024) Y
    omega
theorem itU_cnt {n : Nat} {X : Rw} {f : Nat → Int32} : ∀ {k : Nat}, (itN (fun k Y => r_uni n (X.1 k) Y) k (f, 0)).2 ≤ k * 2
  | 0 => Nat.le_refl _
  | k + 1 => by
    show (r_uni n (X.1 k) (itN (fun k Y => r_uni n (X.1 k) Y) k (f, 0))).2 ≤ _
    have ih := itU_cnt (n := n) (X := X) (f := f) (k := k)
    have := r_uni_cnt (n := n) (p := X.1 k) (Y := itN (fun k Y => r_uni n (X.1 k) Y) k (f, 0))
    omega
theorem u_fr_hit {U : Nat → Bool} {m r : Nat} (hm : 0 < m) (h : ¬ U r = true) : u_fr U m r = r := by
  cases m with
  | zero => omega
  | succ m => rw [u_fr, if_neg h]
theorem u_fr_miss {U : Nat → Bool} {m r : Nat} (hm : 0 < m) (h : U r = true) : u_fr U m r = u_fr U (m - 1) (r + 1) := by
  cases m with
  | zero => omega
  | succ m => rw [u_fr, if_pos h]; rfl
