/-! What each call does to the state (lists, no machine): the class and the reference are each tied to this -/
abbrev OUTS : Int32 := -2000000001
abbrev j_out (k : Int32) (n : Nat) : Prop := k.toInt < 0 ∨ (n : Int) ≤ k.toInt
def u_units (p : Int32) : List Int32 := if p < 65536 then [p] else [55296 + (p - 65536) / 1024, 56320 + ((p - 65536) - (p - 65536) / 1024 * 1024)]
def u_pts : List Int32 → List Int32
  | [] => []
  | [a] => [a]
  | a :: b :: l => if j_high a ∧ j_low b then (65536 + (a - 55296) * 1024 + (b - 56320)) :: u_pts l else a :: u_pts (b :: l)
def u_pl (kd : Int32) (xs : List Int32) : List Int32 := if kd = 0 then u_pts xs else xs
def u_ul (kd : Int32) (xs : List Int32) : List Int32 := if kd ≠ 1 then xs else xs.flatMap u_units
def u_used (tx : Nat → Option Nat) (kp : List Nat) (r : Nat) : Bool := (List.range 10).any (fun t => tx t == some r) || kp.contains r
def u_fr (U : Nat → Bool) : Nat → Nat → Nat
  | 0, r => r
  | m + 1, r => if U r = true then u_fr U m (r + 1) else r
def u_free (tx : Nat → Option Nat) (kp : List Nat) : Nat := u_fr (u_used tx kp) 24 0
def u_srt (rs : Rws) (x : Option Nat) : Int32 := match x with
  | none => -1
  | some r => (rs r).1
def s_no (S : Sg) (c : Int32) : Int32 × Sg := (0, c, S.2)
def s_yes (S : Sg) (v : Int32) : Int32 × Sg := (v, 0, S.2)
def s_mk (S : Sg) (t : Nat) (kd : Int32) (xs : List Int32) : Int32 × Sg := (nI xs.length, 0, S.2.1, S.2.2.1, va_up S.2.2.2.1 t (some (u_free S.2.2.2.1 S.2.2.2.2.1)), S.2.2.2.2.1, va_up S.2.2.2.2.2 (u_free S.2.2.2.1 S.2.2.2.2.1) (kd, xs))
def s_brk (S : Sg) (k : Int32) : Int32 × Sg := (0, 5, k, S.2.2)
def s_code (S : Sg) : Int32 × Sg := (S.1, S)
def s_place (S : Sg) : Int32 × Sg := (S.2.1, S)
def s_point (S : Sg) (p : Int32) : Int32 × Sg := if j_noPoint p then (OUTS, S) else if 60 < S.2.2.1.length + (u_units p).length then s_no S 6 else (nI (S.2.2.1 ++ u_units p).length, 0, S.2.1, S.2.2.1 ++ u_units p, S.2.2.2)
def s_unit (S : Sg) (u : Int32) : Int32 × Sg := if u < 0 ∨ 65535 < u then (OUTS, S) else if 60 ≤ S.2.2.1.length then s_no S 6 else (nI (S.2.2.1 ++ [u]).length, 0, S.2.1, S.2.2.1 ++ [u], S.2.2.2)
def s_fresh (S : Sg) : Int32 × Sg := (nI S.2.2.1.length, S.1, S.2.1, [], S.2.2.2)
def s_lay (S : Sg) (t k : Int32) : Int32 × Sg := if j_noText t ∨ k < 0 ∨ 2 < k then (OUTS, S) else s_mk S t.toNatClampNeg k (if k = 1 then u_pts S.2.2.1 else S.2.2.1.map (fun x => x &&& j_mask k))
def s_tx (S : Sg) (t : Nat) (v : Option Nat) : Sg := (S.1, S.2.1, S.2.2.1, va_up S.2.2.2.1 t v, S.2.2.2.2)
def s_share (S : Sg) (t u : Int32) : Int32 × Sg := if j_noText t ∨ j_noText u then (OUTS, S) else (u_srt S.2.2.2.2.2 (S.2.2.2.1 u.toNatClampNeg), s_tx S t.toNatClampNeg (S.2.2.2.1 u.toNatClampNeg))
def s_nothing (S : Sg) (t : Int32) : Int32 × Sg := if j_noText t then (OUTS, S) else (u_srt S.2.2.2.2.2 (S.2.2.2.1 t.toNatClampNeg), s_tx S t.toNatClampNeg none)
def s_sort (S : Sg) (t : Int32) : Int32 × Sg := if j_noText t then (OUTS, S) else (u_srt S.2.2.2.2.2 (S.2.2.2.1 t.toNatClampNeg), S)
/-- a call that wants the text t: its row's sort and items -/
def s_w1 (S : Sg) (t : Int32) (f : Int32 → List Int32 → Int32 × Sg) : Int32 × Sg := match S.2.2.2.1 t.toNatClampNeg with
  | none => s_no S 1
  | some r => f (S.2.2.2.2.2 r).1 (S.2.2.2.2.2 r).2
def s_length (S : Sg) (t : Int32) : Int32 × Sg := if j_noText t then (OUTS, S) else s_w1 S t (fun _ xs => s_yes S (nI xs.length))
def s_points (S : Sg) (t : Int32) : Int32 × Sg := if j_noText t then (OUTS, S) else s_w1 S t (fun kd xs => if kd = 2 then s_no S 2 else s_yes S (nI (u_pl kd xs).length))
def s_at (S : Sg) (t k : Int32) : Int32 × Sg := if j_noText t then (OUTS, S) else s_w1 S t (fun _ xs => if j_out k xs.length then s_no S 3 else s_yes S (lf xs k.toNatClampNeg))
def s_pointAt (S : Sg) (t k : Int32) : Int32 × Sg := if j_noText t then (OUTS, S) else s_w1 S t (fun kd xs => if kd = 2 then s_no S 2 else if j_out k (u_pl kd xs).length then s_no S 3 else s_yes S (lf (u_pl kd xs) k.toNatClampNeg))
def s_rs (S : Sg) (r : Nat) (xs : List Int32) : Sg := (0, S.2.1, S.2.2.1, S.2.2.2.1, S.2.2.2.2.1, va_up S.2.2.2.2.2 r ((S.2.2.2.2.2 r).1, xs))
def s_put (S : Sg) (t k v : Int32) : Int32 × Sg := if j_noText t then (OUTS, S) else match S.2.2.2.1 t.toNatClampNeg with
  | none => s_no S 1
  | some r => if (S.2.2.2.2.2 r).1 = 1 then s_no S 2 else if j_out k (S.2.2.2.2.2 r).2.length then s_no S 3 else (lf (S.2.2.2.2.2 r).2 k.toNatClampNeg, s_rs S r ((S.2.2.2.2.2 r).2.set k.toNatClampNeg (v &&& j_mask (S.2.2.2.2.2 r).1)))
def s_turnInto (S : Sg) (t u way : Int32) : Int32 × Sg := if j_noText t ∨ j_noText u ∨ j_noWay way then (OUTS, S) else s_w1 S u (fun kd xs => if kd = 2 then s_no S 2 else if 60 < (if way = 1 then u_pl kd xs else u_ul kd xs).length then s_no S 6 else s_mk S t.toNatClampNeg way (if way = 1 then u_pl kd xs else u_ul kd xs))
def u_tu (form x : Int32) : List Int32 := [if form = 1 then x / 256 else x - x / 256 * 256, if form = 1 then x - x / 256 * 256 else x / 256]
def u_mb (p : Int32) : List Int32 :=
  if p < 128 then [p] else if p < 2048 then [192 + p / 64, 128 + (p - p / 64 * 64)]
  else if p < 65536 then [224 + p / 4096, 128 + (p / 64 - p / 64 / 64 * 64), 128 + (p - p / 64 * 64)]
  else [240 + p / 262144, 128 + (p / 4096 - p / 4096 / 64 * 64), 128 + (p / 64 - p / 64 / 64 * 64), 128 + (p - p / 64 * 64)]
def u_tp (form p : Int32) : List Int32 := if form = 3 then [p] else u_mb p
/-- the number of the first that has P, from k on; -1: none -/
def u_find (P : Int32 → Prop) [DecidablePred P] : List Int32 → Nat → Int32
  | [], _ => -1
  | x :: l, k => if P x then nI k else u_find P l (k + 1)
def s_tell (S : Sg) (t u form : Int32) : Int32 × Sg := if j_noText t ∨ j_noText u ∨ j_noForm form then (OUTS, S) else s_w1 S u (fun kd xs => if kd = 2 then s_no S 2 else
  if form = 1 ∨ form = 2 then s_mk S t.toNatClampNeg 2 ((u_ul kd xs).flatMap (u_tu form)) else
  if u_find (j_bad form) (u_pl kd xs) 0 ≠ -1 then s_brk S (u_find (j_bad form) (u_pl kd xs) 0) else s_mk S t.toNatClampNeg 2 ((u_pl kd xs).flatMap (u_tp form)))
/-- a call that wants two texts -/
def s_w2 (S : Sg) (a b : Int32) (z : Int32 × Sg) (f : Nat → Nat → Int32 × Sg) : Int32 × Sg := match S.2.2.2.1 a.toNatClampNeg with
  | none => z
  | some r => match S.2.2.2.1 b.toNatClampNeg with
    | none => z
    | some r' => f r r'
def s_join (S : Sg) (t a b : Int32) : Int32 × Sg := if j_noText t ∨ j_noText a ∨ j_noText b then (OUTS, S) else s_w2 S a b (s_no S 1) (fun r r' => if (S.2.2.2.2.2 r).1 ≠ (S.2.2.2.2.2 r').1 then s_no S 2 else if (if (S.2.2.2.2.2 r).1 = 2 then 240 else 60) < (S.2.2.2.2.2 r).2.length + (S.2.2.2.2.2 r').2.length then s_no S 6 else s_mk S t.toNatClampNeg (S.2.2.2.2.2 r).1 ((S.2.2.2.2.2 r).2 ++ (S.2.2.2.2.2 r').2))
def s_change (S : Sg) (t u way : Int32) : Int32 × Sg := if j_noText t ∨ j_noText u ∨ j_noWay way then (OUTS, S) else s_w1 S u (fun kd xs => if kd = 2 then s_no S 2 else s_mk S t.toNatClampNeg kd (xs.map (fun x => if way = 0 then j_gr x else j_le x)))
/-- a pair stands around the place k -/
abbrev u_ins (xs : List Int32) (k : Nat) : Prop := 1 ≤ k ∧ k < xs.length ∧ j_high (lf xs (k - 1)) ∧ j_low (lf xs k)
abbrev j_bey (len : Nat) (i n : Int32) : Prop := i.toInt < 0 ∨ n.toInt < 0 ∨ (len : Int) < i.toInt + n.toInt
def s_cut (S : Sg) (t u i n : Int32) : Int32 × Sg := if j_noText t ∨ j_noText u then (OUTS, S) else s_w1 S u (fun kd xs => if n < 0 then s_no S 4 else if j_bey xs.length i n then s_no S 3 else
  if 0 < n ∧ kd = 0 ∧ (u_ins xs i.toNatClampNeg ∨ u_ins xs (i.toNatClampNeg + n.toNatClampNeg)) then s_no S 7 else s_mk S t.toNatClampNeg kd ((xs.drop i.toNatClampNeg).take n.toNatClampNeg))
def s_back (S : Sg) (t u : Int32) : Int32 × Sg := if j_noText t ∨ j_noText u then (OUTS, S) else s_w1 S u (fun kd xs => s_mk S t.toNatClampNeg kd ((u_pl kd xs).reverse.flatMap (fun p => if kd = 0 then u_units p else [p])))
def s_copy (S : Sg) (x i y j n : Int32) : Int32 × Sg := if j_noText x ∨ j_noText y then (OUTS, S) else s_w2 S x y (s_no S 1) (fun r r' => if (S.2.2.2.2.2 r).1 = 1 ∨ (S.2.2.2.2.2 r).1 ≠ (S.2.2.2.2.2 r').1 then s_no S 2 else
  if j_bey (S.2.2.2.2.2 r).2.length i n ∨ j_bey (S.2.2.2.2.2 r').2.length j n then s_no S 3 else (n, s_rs S r' ((S.2.2.2.2.2 r').2.take j.toNatClampNeg ++ (((S.2.2.2.2.2 r).2.drop i.toNatClampNeg).take n.toNatClampNeg ++ (S.2.2.2.2.2 r').2.drop (j.toNatClampNeg + n.toNatClampNeg)))))
abbrev u_st (kd : Int32) (xs ys : List Int32) (k : Nat) : Prop := ¬ (kd = 0 ∧ u_ins xs k) ∧ ¬ (kd = 0 ∧ u_ins xs (k + ys.length)) ∧ ∀ m, m < ys.length → lf xs (k + m) = lf ys m
def s_find (S : Sg) (a b i : Int32) : Int32 × Sg := if j_noText a ∨ j_noText b then (OUTS, S) else s_w2 S a b (-1, 1, S.2) (fun r r' => if (S.2.2.2.2.2 r).1 ≠ (S.2.2.2.2.2 r').1 then (-1, 2, S.2) else
  (j_srch (u_st (S.2.2.2.2.2 r).1 (S.2.2.2.2.2 r).2 (S.2.2.2.2.2 r').2) ((S.2.2.2.2.2 r).2.length + 1 - (S.2.2.2.2.2 r').2.length - i.toNatClampNeg) i.toNatClampNeg, 0, S.2))
def u_ord : List Int32 → List Int32 → Int32
  | [], [] => 0
  | [], _ :: _ => -1
  | _ :: _, [] => 1
  | x :: l, y :: m => if x = y then u_ord l m else if x < y then -1 else 1
def s_compare (S : Sg) (a b way : Int32) : Int32 × Sg := if j_noText a ∨ j_noText b ∨ j_noWay way then (OUTS, S) else s_w2 S a b (s_no S 1) (fun r r' => if ¬ ((S.2.2.2.2.2 r).1 = 2 ↔ (S.2.2.2.2.2 r').1 = 2) then s_no S 2 else
  s_yes S (if way = 0 then u_ord (u_ul (S.2.2.2.2.2 r).1 (S.2.2.2.2.2 r).2) (u_ul (S.2.2.2.2.2 r').1 (S.2.2.2.2.2 r').2) else u_ord (u_pl (S.2.2.2.2.2 r).1 (S.2.2.2.2.2 r).2) (u_pl (S.2.2.2.2.2 r').1 (S.2.2.2.2.2 r').2)))
/-- the number of the first kept one, from k on, that has the items xs -/
def u_kl (rs : Rws) (xs : List Int32) : List Nat → Nat → Option (Nat × Nat)
  | [], _ => none
  | r :: l, k => if (rs r).2 = xs then some (k, r) else u_kl rs xs l (k + 1)
def s_keep (S : Sg) (t : Int32) : Int32 × Sg := if j_noText t then (OUTS, S) else match S.2.2.2.1 t.toNatClampNeg with
  | none => s_no S 1
  | some r => if (S.2.2.2.2.2 r).1 ≠ 0 then s_no S 2 else match u_kl S.2.2.2.2.2 (S.2.2.2.2.2 r).2 S.2.2.2.2.1 0 with
    | some (k, r') => (nI k, 0, S.2.1, S.2.2.1, va_up S.2.2.2.1 t.toNatClampNeg (some r'), S.2.2.2.2)
    | none => if 12 ≤ S.2.2.2.2.1.length then s_no S 6 else (nI S.2.2.2.2.1.length, 0, S.2.1, S.2.2.1, S.2.2.2.1, S.2.2.2.2.1 ++ [r], S.2.2.2.2.2)
def s_kept (S : Sg) : Int32 × Sg := (nI S.2.2.2.2.1.length, S)
def s_same (S : Sg) (a b : Int32) : Int32 × Sg := if j_noText a ∨ j_noText b then (OUTS, S) else (if S.2.2.2.1 a.toNatClampNeg = S.2.2.2.1 b.toNatClampNeg then 1 else 0, S)
def u_kind (p : Int32) : Int32 := if j_noPoint p then OUTS else if j_high p then 0 else if j_low p then 1 else if 48 ≤ p ∧ p ≤ 57 then 2 else if j_gr p ≠ p ∨ j_le p ≠ p then 3 else if (9 ≤ p ∧ p ≤ 13) ∨ p = 32 ∨ p = 160 then 4 else if 65536 ≤ p then 5 else 6
def rOK (x : Int32 × List Int32) : Prop := (x.1 = 0 ∧ x.2.length ≤ 60 ∧ ∀ v ∈ x.2, 0 ≤ v.toInt ∧ v.toInt ≤ 65535) ∨ (x.1 = 1 ∧ x.2.length ≤ 60 ∧ ∀ v ∈ x.2, 0 ≤ v.toInt ∧ v.toInt ≤ 1114111) ∨ (x.1 = 2 ∧ x.2.length ≤ 240 ∧ ∀ v ∈ x.2, 0 ≤ v.toInt ∧ v.toInt ≤ 255)
def WF (S : Sg) : Prop := (S.2.2.1.length ≤ 60 ∧ ∀ v ∈ S.2.2.1, 0 ≤ v.toInt ∧ v.toInt ≤ 65535) ∧ (∀ t, 10 ≤ t → S.2.2.2.1 t = none) ∧ S.2.2.2.2.1.length ≤ 12 ∧ (∀ r, live S.2.2.2.1 S.2.2.2.2.1 r → r < 24 ∧ rOK (S.2.2.2.2.2 r)) ∧ ∀ r ∈ S.2.2.2.2.1, (S.2.2.2.2.2 r).1 = 0
theorem rOK.len {x : Int32 × List Int32} (h : rOK x) : x.2.length ≤ 240 := by rcases h with h | h | h <;> omega
theorem rOK.len2 {x : Int32 × List Int32} (h : rOK x) (h2 : x.1 ≠ 2) : x.2.length ≤ 60 := by
  rcases h with h | h | h
  · omega
  · omega
  · exact absurd h.1 h2
/-- some number below n is none of a shorter list's -/
theorem u_pig : ∀ (n : Nat) (L : List Nat), L.length < n → ∃ r, r < n ∧ r ∉ L
  | 0, L, h => absurd h (Nat.not_lt_zero _)
  | n + 1, L, h => by
    by_cases hn : n ∈ L
    · have h1 : (L.erase n).length < n := by have := List.length_pos_of_mem hn; rw [List.length_erase_of_mem hn]; omega
      obtain ⟨r, hr, hr2⟩ := u_pig n (L.erase n) h1
      refine ⟨r, by omega, fun h2 => hr2 ?_⟩
      rw [List.mem_erase_of_ne (by omega)]
      exact h2
    · exact ⟨n, by omega, hn⟩
theorem u_used_iff {tx : Nat → Option Nat} {kp : List Nat} (h10 : ∀ t, 10 ≤ t → tx t = none) (r : Nat) : u_used tx kp r = true ↔ live tx kp r := by
  unfold u_used live
  rw [Bool.or_eq_true, List.any_eq_true, List.contains_iff_mem]
  constructor
  · rintro (⟨t, _, h⟩ | h)
    · exact Or.inl ⟨t, by simpa using h⟩
    · exact Or.inr h
  · rintro (⟨t, h⟩ | h)
    · refine Or.inl ⟨t, ?_, by simpa using h⟩
      rw [List.mem_range]
      rcases Nat.lt_or_ge t 10 with q | q
      · exact q
      · rw [h10 t q] at h; cases h
    · exact Or.inr h
theorem u_fr_spec {U : Nat → Bool} : ∀ (m r : Nat), (∃ q, r ≤ q ∧ q < r + m ∧ ¬ U q = true) → ¬ U (u_fr U m r) = true ∧ u_fr U m r < r + m
  | 0, r, ⟨q, h1, h2, _⟩ => by omega
  | m + 1, r, ⟨q, h1, h2, h3⟩ => by
    rw [u_fr]
    by_cases h : U r = true
    · rw [if_pos h]
      have hq : q ≠ r := fun e => h3 (by rw [e]; exact h)
      have := u_fr_spec m (r + 1) ⟨q, by omega, by omega, h3⟩
      exact ⟨this.1, by omega⟩
    · rw [if_neg h]
      exact ⟨h, by omega⟩
theorem u_free_spec {tx : Nat → Option Nat} {kp : List Nat} (h10 : ∀ t, 10 ≤ t → tx t = none) (hk : kp.length ≤ 12) : ¬ live tx kp (u_free tx kp) ∧ u_free tx kp < 24 := by
  obtain ⟨r, hr, hr2⟩ := u_pig 24 ((List.range 10).filterMap tx ++ kp) (by
    rw [List.length_append]
    have := List.length_filterMap_le tx (List.range 10)
    rw [List.length_range] at this
    omega)
  have hnl : ¬ live tx kp r := by
    rintro (⟨t, ht⟩ | h)
    · apply hr2
      rw [List.mem_append, List.mem_filterMap]
      refine Or.inl ⟨t, ?_, ht⟩
      rw [List.mem_range]
      rcases Nat.lt_or_ge t 10 with q | q
      · exact q
      · rw [h10 t q] at ht; cases ht
    · exact hr2 (List.mem_append_right _ h)
  have h1 := u_fr_spec (U := u_used tx kp) 24 0 ⟨r, by omega, by omega, fun h => hnl ((u_used_iff h10 r).mp h)⟩
  refine ⟨fun h => h1.1 ((u_used_iff h10 _).mpr h), ?_⟩
  have h2 := h1.2
  unfold u_free
  omega
