/-! WORLDS BY FUNCTION. A world is a partial function from addresses to contents. A contract speaks of every world that holds what the method touches; what it leaves is told by an equation of worlds: no cutting out and no joining at a call. The kit's rows over lists of cells are used underneath (a world's cells are a pool: va_pl). -/
abbrev Wd : Type := Nat → Option va_E
def wd_f (w : Wd) : Nat → va_E := fun a => (w a).getD (.inr (0, []))
def wd_up (w : Wd) (a : Nat) (e : va_E) : Wd := fun b => if b = a then some e else w b
theorem wd_up_self (w : Wd) (a : Nat) (e : va_E) : wd_up w a e a = some e := by simp [wd_up]
theorem wd_up_ne (w : Wd) {a b : Nat} (e : va_E) (h : b ≠ a) : wd_up w a e b = w b := by simp [wd_up, h]
theorem wd_f_up (w : Wd) (a : Nat) (e : va_E) : wd_f (wd_up w a e) = va_up (wd_f w) a e := by
  funext b
  by_cases h : b = a <;> simp [wd_f, wd_up, va_up, h]
/-- what a method may write: the cells of its world, and all that come from sz on -/
def wd_A (w : Wd) (sz : Nat) : Nat → Prop := fun q => w q ≠ none ∨ sz ≤ q
/-- the heap holds the world -/
def wd_P (D : va_G) (cl : List vw_C) (A : Nat → Prop) (w : Wd) (H : Heap) : Prop :=
  ∃ L : List Nat, (∀ a, a ∈ L ↔ w a ≠ none) ∧ va_P D cl (va_pl L (wd_f w)) H ∧ va_D A (va_pl L (wd_f w))
theorem wd_in {w : Wd} {L : List Nat} (hL : ∀ a, a ∈ L ↔ w a ≠ none) {a : Nat} {e : va_E} (he : w a = some e) : ∃ k : Nat, (va_pl L (wd_f w))[k]? = some (a, e) := by
  have ha : a ∈ L := (hL a).mpr (by rw [he]; simp)
  obtain ⟨k, hk⟩ := va_pl_get (X := []) (f := wd_f w) ha
  exact ⟨k, by simpa [wd_f, he] using hk⟩
theorem wd_P.weaken {D : va_G} {cl : List vw_C} {A B : Nat → Prop} {w : Wd} {H : Heap} (h : wd_P D cl A w H) (hAB : ∀ q, A q → B q) : wd_P D cl B w H := by
  obtain ⟨L, hL, hP, hD⟩ := h
  exact ⟨L, hL, hP, hD.weaken (fun _ q _ h => hAB q.1 h)⟩
theorem wd_P.inA {D : va_G} {cl : List vw_C} {A : Nat → Prop} {w : Wd} {H : Heap} (h : wd_P D cl A w H) {q : Nat} (hq : w q ≠ none) : A q := by
  obtain ⟨L, hL, hP, hD⟩ := h
  obtain ⟨e, he⟩ := Option.ne_none_iff_exists'.mp hq
  obtain ⟨k, hk⟩ := wd_in hL he
  exact hD.2 k _ hk
theorem wd_P.lt {D : va_G} {cl : List vw_C} {A : Nat → Prop} {w : Wd} {H : Heap} (h : wd_P D cl A w H) {q : Nat} (hq : w q ≠ none) : q < H.size := by
  obtain ⟨L, hL, hP, hD⟩ := h
  obtain ⟨e, he⟩ := Option.ne_none_iff_exists'.mp hq
  obtain ⟨k, hk⟩ := wd_in hL he
  exact (hP k _ hk).lt
theorem wd_P.free {D : va_G} {cl : List vw_C} {A : Nat → Prop} {w : Wd} {H0 H : Heap} {locs : List Loc} (h : wd_P D cl A w H) (hS : va_S A H0 H locs) (hA : ∀ q, H0.size ≤ q → A q) : ∀ q, wd_A w H.size q → A q := fun q hq => by
  rcases hq with hq | hq
  · exact h.inA hq
  · exact hA q (Nat.le_trans hS.1 hq)
/-- a world whose cells are as they were -/
theorem wd_P.kept {D : va_G} {cl : List vw_C} {A : Nat → Prop} {w : Wd} {H H1 : Heap} (h : wd_P D cl A w H) (hq : ∀ q, w q ≠ none → H1[q]? = H[q]?) : wd_P D cl A w H1 := by
  obtain ⟨L, hL, hP, hD⟩ := h
  refine ⟨L, hL, hP.kept (fun k q hk => hq q.1 ?_), hD⟩
  have hm := List.mem_of_getElem? hk
  obtain ⟨a, ha, rfl⟩ := List.mem_map.mp hm
  exact (hL a).mp ha
theorem wd_set {D : va_G} {cl : List vw_C} {A : Nat → Prop} {w : Wd} {H1 : Heap} {L : List Nat} {a q0 : Nat} {e0 e : va_E} (hL : ∀ a, a ∈ L ↔ w a ≠ none) (hD : va_D A (va_pl L (wd_f w))) (he : w a = some e0) (hk : (va_pl L (wd_f w))[q0]? = some (a, e0)) (hP1 : va_P D cl ((va_pl L (wd_f w)).set q0 (a, e)) H1) (hD1 : va_D A ((va_pl L (wd_f w)).set q0 (a, e))) : wd_P D cl A (wd_up w a e) H1 := by
  have ha : a ∈ L := (hL a).mpr (by rw [he]; simp)
  have hf : wd_f w a = e0 := by simp [wd_f, he]
  have hs := va_pl_set (X := []) (f := wd_f w) (a := a) (k := q0) (e := e) (by simpa using hD) ha (by simpa [hf] using hk)
  simp only [List.nil_append] at hs
  rw [hs, ← wd_f_up] at hP1 hD1
  refine ⟨L, fun b => ?_, hP1, hD1⟩
  rw [hL b]
  by_cases hb : b = a
  · subst hb; simp [wd_up, he]
  · simp [wd_up, hb]
theorem wd_push {D : va_G} {cl : List vw_C} {A : Nat → Prop} {w : Wd} {H1 : Heap} {L : List Nat} {q : Nat} {e : va_E} (hL : ∀ a, a ∈ L ↔ w a ≠ none) (hP1 : va_P D cl (va_pl L (wd_f w) ++ [(q, e)]) H1) (hD1 : va_D A (va_pl L (wd_f w) ++ [(q, e)])) : w q = none ∧ wd_P D cl A (wd_up w q e) H1 := by
  have hq : q ∉ L := by
    intro h
    obtain ⟨k, hk⟩ := va_pl_get (X := []) (f := wd_f w) h
    rw [List.nil_append] at hk
    have hlt := (List.getElem?_eq_some_iff.mp hk).1
    have h1 : (va_pl L (wd_f w) ++ [(q, e)])[k]? = some (q, wd_f w q) := by rw [List.getElem?_append_left hlt]; exact hk
    have h2 : (va_pl L (wd_f w) ++ [(q, e)])[(va_pl L (wd_f w)).length]? = some (q, e) := by simp
    have := hD1.1 k _ _ _ h1 h2 rfl
    omega
  have hn : w q = none := by
    cases h : w q with
    | none => rfl
    | some x => exact absurd ((hL q).mpr (by rw [h]; simp)) hq
  rw [va_pl_push hq, ← wd_f_up] at hP1 hD1
  refine ⟨hn, L ++ [q], fun b => ?_, hP1, hD1⟩
  rw [List.mem_append, List.mem_singleton, hL b]
  by_cases hb : b = q
  · subst hb; simp [wd_up]
  · simp [wd_up, hb]
/-- what is known of the tables at every state of a run -/
def wd_Kok (KK : State → Prop) : Prop := (∀ s U : State, KK s → s.WarmedH U.vm → KK U) ∧ ∀ (U : State) (g : JFrame) (mk : MethodId) (a : Array Value), KK U → KK (U.calling g mk a)
/-- a contract's start -/
def wd_C (D : va_G) (cl : List vw_C) (KK : State → Prop) (av : List Value) (w : Wd) (sz : Nat) : Array Value → State → Prop := va_Pc av (fun U => U.heap.size = sz ∧ wd_P D cl (fun _ => True) w U.heap ∧ KK U)
abbrev wd_B (D : va_G) (cl : List vw_C) (A : Nat → Prop) : Wd → State → Prop := fun w' t => wd_P D cl A w' t.heap
/-- contracts of methods that answer an int (or a boolean), nothing, a reference -/
abbrev wd_Mi (l : Launch) (D : va_G) (cl : List vw_C) (KK : State → Prop) (y : MethodName) (ws : List Cond) (rm : Room) (av : List Value) (w : Wd) (sz : Nat) (post : Int32 → Wd → Prop) : Prop :=
  Met l y ws rm (wd_C D cl KK av w sz) (va_Qi post (wd_B D cl (wd_A w sz)) (wd_A w sz)) rm.cells rm.slots (wd_A w sz)
abbrev wd_Mv (l : Launch) (D : va_G) (cl : List vw_C) (KK : State → Prop) (y : MethodName) (ws : List Cond) (rm : Room) (av : List Value) (w : Wd) (sz : Nat) (post : Wd → Prop) : Prop :=
  Met l y ws rm (wd_C D cl KK av w sz) (va_Qv post (wd_B D cl (wd_A w sz)) (wd_A w sz)) rm.cells rm.slots (wd_A w sz)
abbrev wd_Mr (l : Launch) (D : va_G) (cl : List vw_C) (KK : State → Prop) (y : MethodName) (ws : List Cond) (rm : Room) (av : List Value) (w : Wd) (sz : Nat) (post : Wd × Nat → Prop) : Prop :=
  Met l y ws rm (wd_C D cl KK av w sz) (va_Qr post (fun u a t => a = u.2 ∧ wd_P D cl (wd_A w sz) u.1 t.heap) (wd_A w sz)) rm.cells rm.slots (wd_A w sz)
/-- the room of a method that stands d calls above its deepest leaf -/
def wd_rm (d mc ms : Nat) : Room := { frames := d, cells := mc, slots := ms, locals := 40 * d }
