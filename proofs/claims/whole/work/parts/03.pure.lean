/-! THE CLASS'S METHODS AS FUNCTIONS (mirrors of the code, total; no machine) -/
abbrev j_b (P : Prop) [Decidable P] : Int32 := if P then 1 else 0
theorem j_b0 {P : Prop} [Decidable P] (h : j_b P = 0) : ¬ P := fun hp => by simp [j_b, hp] at h
theorem j_bn {P : Prop} [Decidable P] (h : ¬ j_b P = 0) : P := by
  by_cases hp : P
  · exact hp
  · exact absurd (by simp [j_b, hp]) h
theorem j_b01 (P : Prop) [Decidable P] : j_b P = 0 ∨ j_b P = 1 := by by_cases hp : P <;> simp [j_b, hp]
abbrev j_noText (t : Int32) : Prop := t < 0 ∨ 10 ≤ t
abbrev j_noPoint (p : Int32) : Prop := p < 0 ∨ 1114111 < p
abbrev j_noForm (f : Int32) : Prop := f < 0 ∨ 3 < f
abbrev j_noWay (w : Int32) : Prop := w ≠ 0 ∧ w ≠ 1
abbrev j_high (u : Int32) : Prop := 55296 ≤ u ∧ u < 56320
abbrev j_low (u : Int32) : Prop := 56320 ≤ u ∧ u ≤ 57343
def j_uc (p : Int32) : Int32 := if p < 65536 then 1 else 2
def j_mask (s : Int32) : Int32 := if s = 2 then 255 else 65535
abbrev j_ins (g : Nat → Int32) (len : Nat) (n k : Int32) : Prop := ¬ (k < 1 ∨ n ≤ k ∨ nI len ≤ k) ∧ j_high (g (k - 1).toNatClampNeg) ∧ j_low (g k.toNatClampNeg)
def j_pp (g : Nat → Int32) (len : Nat) (k : Int32) : Int32 := if k < 0 ∨ nI len - 1 ≤ k then 0 else 65536 + (g k.toNatClampNeg - 55296) * 1024 + (g (k + 1).toNatClampNeg - 56320)
abbrev j_beyond (len : Nat) (i n : Int32) : Prop := i < 0 ∨ n < 0 ∨ nI len < i ∨ nI len - i < n
abbrev j_parts (kd : Int32) (g : Nat → Int32) (len : Nat) (k : Int32) : Prop := kd = 0 ∧ j_ins g len (nI len) k
def j_bc (x : Int32) : Int32 := if x < 128 then 1 else if x < 194 ∨ 244 < x then 0 else if x < 224 then 2 else if x < 240 then 3 else 4
def j_fbo (c : Int32) : Int32 := if c = 2 then 192 else if c = 3 then 224 else if c = 4 then 240 else 0
abbrev j_told (p c : Int32) : Prop := if c = 3 then 2048 ≤ p ∧ ¬ j_high p ∧ ¬ j_low p else if c = 4 then 65536 ≤ p ∧ p ≤ 1114111 else True
def j_gr (p : Int32) : Int32 := if (97 ≤ p ∧ p ≤ 122) ∨ (224 ≤ p ∧ p ≤ 254 ∧ p ≠ 247) then p - 32 else if p = 255 then 376 else p
def j_le (p : Int32) : Int32 := if (65 ≤ p ∧ p ≤ 90) ∨ (192 ≤ p ∧ p ≤ 222 ∧ p ≠ 215) then p + 32 else if p = 376 then 255 else p
/-- n steps, the k-th by F k -/
def itN {α : Type} (F : Nat → α → α) : Nat → α → α
  | 0, x => x
  | k + 1, x => F k (itN F k x)
/-- a row: what its array holds, how many of it count -/
abbrev Rw : Type := (Nat → Int32) × Nat
def r_add (n : Nat) (x : Int32) (X : Rw) : Rw := if X.2 < n then (upd X.1 X.2 x, X.2 + 1) else X
def r_nil (X : Rw) : Rw := (X.1, 0)
def r_all (n : Nat) (g : Nat → Int32) (m : Nat) (X : Rw) : Rw := itN (fun k X => r_add n (g k) X) m X
def r_uni (n : Nat) (p : Int32) (X : Rw) : Rw := if p < 65536 then r_add n p X else r_add n (56320 + ((p - 65536) - (p - 65536) / 1024 * 1024)) (r_add n (55296 + (p - 65536) / 1024) X)
def r_pt1 (n : Nat) (g : Nat → Int32) (len : Nat) (m : Int32) (k : Nat) (X : Rw) : Rw := if j_ins g len m (nI k + 1) then r_add n (j_pp g len (nI k)) X else if j_ins g len m (nI k) then X else r_add n (g k) X
def r_pts (n : Nat) (g : Nat → Int32) (len m : Nat) (X : Rw) : Rw := itN (r_pt1 n g len (nI m)) (min m len) X
def r_lp (n : Nat) (kd : Int32) (g : Nat → Int32) (len : Nat) (X : Rw) : Rw := if kd = 0 then r_pts n g len len (r_nil X) else r_all n g len (r_nil X)
def r_lu (n : Nat) (kd : Int32) (g : Nat → Int32) (len : Nat) (X : Rw) : Rw := if kd ≠ 1 then r_all n g len (r_nil X) else itN (fun k X => r_uni n (g k) X) len (r_nil X)
theorem r_add_le {n : Nat} {x : Int32} {X : Rw} (h : X.2 ≤ n) : (r_add n x X).2 ≤ n := by
  unfold r_add
  split
  · simp only; omega
  · exact h
theorem itN_le {n : Nat} {F : Nat → Rw → Rw} (hF : ∀ k X, X.2 ≤ n → (F k X).2 ≤ n) : ∀ (m : Nat) (X : Rw), X.2 ≤ n → (itN F m X).2 ≤ n
  | 0, _, h => h
  | m + 1, X, h => hF m _ (itN_le hF m X h)
theorem r_all_le {n : Nat} {g : Nat → Int32} {m : Nat} {X : Rw} (h : X.2 ≤ n) : (r_all n g m X).2 ≤ n := itN_le (fun _ _ h => r_add_le h) m X h
theorem r_uni_le {n : Nat} {p : Int32} {X : Rw} (h : X.2 ≤ n) : (r_uni n p X).2 ≤ n := by
  unfold r_uni
  split
  · exact r_add_le h
  · exact r_add_le (r_add_le h)
theorem r_pt1_le {n : Nat} {g : Nat → Int32} {len : Nat} {m : Int32} {k : Nat} {X : Rw} (h : X.2 ≤ n) : (r_pt1 n g len m k X).2 ≤ n := by
  unfold r_pt1
  split
  · exact r_add_le h
  · split
    · exact h
    · exact r_add_le h
theorem r_pts_le {n : Nat} {g : Nat → Int32} {len m : Nat} {X : Rw} (h : X.2 ≤ n) : (r_pts n g len m X).2 ≤ n := itN_le (fun _ _ h => r_pt1_le h) _ X h
theorem r_nil_le {n : Nat} {X : Rw} : (r_nil X).2 ≤ n := Nat.zero_le n
theorem r_lp_le {n : Nat} {kd : Int32} {g : Nat → Int32} {len : Nat} {X : Rw} : (r_lp n kd g len X).2 ≤ n := by
  unfold r_lp
  split
  · exact r_pts_le r_nil_le
  · exact r_all_le r_nil_le
theorem r_lu_le {n : Nat} {kd : Int32} {g : Nat → Int32} {len : Nat} {X : Rw} : (r_lu n kd g len X).2 ≤ n := by
  unfold r_lu
  split
  · exact r_all_le r_nil_le
  · exact itN_le (fun _ _ h => r_uni_le h) _ _ r_nil_le
/-- the first k from k0 on, of m, that has P; -1: none -/
def j_srch (P : Nat → Prop) [DecidablePred P] : Nat → Nat → Int32
  | 0, _ => -1
  | m + 1, k => if P k then nI k else j_srch P m (k + 1)
abbrev j_bad (form p : Int32) : Prop := if form = 3 then 255 < p else j_high p ∨ j_low p
def j_fu (X : Rw) (n : Nat) (form : Int32) : Int32 := j_srch (fun k => j_bad form (X.1 k)) (min X.2 n) 0
def r_tu1 (n : Nat) (form x : Int32) (Y : Rw) : Rw := r_add n (if form = 1 then x - x / 256 * 256 else x / 256) (r_add n (if form = 1 then x / 256 else x - x / 256 * 256) Y)
def r_tu (n' n : Nat) (form : Int32) (X Y : Rw) : Rw := itN (fun k Y => r_tu1 n form (X.1 k) Y) (min X.2 n') Y
def r_mb (n : Nat) (p : Int32) (Y : Rw) : Rw :=
  if p < 128 then r_add n p Y
  else if p < 2048 then r_add n (128 + (p - p / 64 * 64)) (r_add n (192 + p / 64) Y)
  else if p < 65536 then r_add n (128 + (p - p / 64 * 64)) (r_add n (128 + (p / 64 - p / 64 / 64 * 64)) (r_add n (224 + p / 4096) Y))
  else r_add n (128 + (p - p / 64 * 64)) (r_add n (128 + (p / 64 - p / 64 / 64 * 64)) (r_add n (128 + (p / 4096 - p / 4096 / 64 * 64)) (r_add n (240 + p / 262144) Y)))
def r_tp (n' n : Nat) (form : Int32) (X Y : Rw) : Rw := itN (fun k Y => if form = 3 then r_add n (X.1 k) Y else r_mb n (X.1 k) Y) (min X.2 n') Y
def j_r2 (n : Nat) (g : Nat → Int32) (len : Nat) (form : Int32) : Nat → Nat → Rw → Int32 × Rw
  | 0, _, X => (-1, X)
  | m + 1, k, X => if k < len ∧ X.2 ≤ 60 then (if k + 1 = len then (nI k, X) else j_r2 n g len form m (k + 2) (r_add n ((if form = 1 then g k else g (k + 1)) * 256 + (if form = 1 then g (k + 1) else g k)) X)) else (-1, X)
def j_pfl (g : Nat → Int32) (len : Nat) (lim : Int32) : Nat → Nat → Int32 → Option Int32
  | 0, _, p => some p
  | q + 1, m, p => if nI m < lim ∧ m < len then (if g m < 128 ∨ 191 < g m then none else j_pfl g len lim q (m + 1) (p * 64 + (g m - 128))) else some p
def j_pf (g : Nat → Int32) (len k : Nat) : Int32 :=
  if len ≤ k then -1 else if j_bc (g k) = 0 ∨ nI len - nI k < j_bc (g k) then -1 else
  match j_pfl g len (nI k + j_bc (g k)) (len - (k + 1)) (k + 1) (g k - j_fbo (j_bc (g k))) with
  | none => -1
  | some p => if j_told p (j_bc (g k)) then p else -1
def j_rm (n : Nat) (g : Nat → Int32) (len : Nat) : Nat → Nat → Int32 → Rw → Int32 × Rw
  | 0, _, _, X => (-1, X)
  | m + 1, k, nx, X => if k < len ∧ X.2 ≤ 60 then (if nx ≤ nI k then (if j_pf g len k = -1 then (nI k, X) else j_rm n g len m (k + 1) (nI k + j_bc (g k)) (r_uni n (j_pf g len k) X)) else j_rm n g len m (k + 1) nx X) else (-1, X)
def j_ru (n : Nat) (g : Nat → Int32) (len : Nat) (form : Int32) (X : Rw) : Int32 × Rw :=
  if form = 0 then j_rm n g len len 0 0 (r_nil X) else if form = 3 then (-1, r_all n g len (r_nil X)) else j_r2 n g len form len 0 (r_nil X)
abbrev j_stands (kd : Int32) (g : Nat → Int32) (len : Nat) (h : Nat → Int32) (pn : Nat) (k : Int32) : Prop :=
  ¬ j_beyond len k (nI pn) ∧ ¬ j_parts kd g len k ∧ ¬ j_parts kd g len (k + nI pn) ∧ ∀ m, m < pn → g (k.toNatClampNeg + m) = h m
def j_cmp (f g : Nat → Int32) : Nat → Nat → Option Int32
  | 0, _ => none
  | m + 1, k => if f k = g k then j_cmp f g m (k + 1) else some (if f k < g k then -1 else 1)
def j_ord (X : Rw) (n : Nat) (Y : Rw) (n' : Nat) : Int32 := match j_cmp X.1 Y.1 (min (min X.2 n) (min Y.2 n')) 0 with
  | some r => r
  | none => if X.2 = Y.2 then 0 else if X.2 < Y.2 then -1 else 1
abbrev j_same (g : Nat → Int32) (n : Nat) (h : Nat → Int32) (n' : Nat) : Prop := n = n' ∧ ∀ k, k < n → g k = h k
