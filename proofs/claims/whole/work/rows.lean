section
/-! WORLDS BY FUNCTION. A world is a partial function from addresses to contents. A contract speaks of every world that holds what the method touches; what it leaves is told by an equation of worlds: no cutting out and no joining at a call. The kit's rows over lists of cells are used underneath (a world's cells are a pool: va_pl). -/
abbrev Wd : Type := Nat → Option va_E
def wd_f (w : Wd) : Nat → va_E := fun a => (w a).getD (.inr (0, []))
def wd_up (w : Wd) (a : Nat) (e : va_E) : Wd := fun b => if b = a then some e else w b
theorem wd_up_self (w : Wd) (a : Nat) (e : va_E) : wd_up w a e a = some e := by simp [wd_up]
theorem wd_up_ne (w : Wd) {a b : Nat} (e : va_E) (h : b ≠ a) : wd_up w a e b = w b := by simp [wd_up, h]
theorem wd_f_up (w : Wd) (a : Nat) (e : va_E) : wd_f (wd_up w a e) = va_up (wd_f w) a e := by
  funext b
  by_cases h : b = a <;> simp [wd_f, wd_up, va_up, h]
/-- what a method may write: the cells of its world, and all that come from sz on -/
def wd_A (w : Wd) (sz : Nat) : Nat → Prop := fun q => w q ≠ none ∨ sz ≤ q
/-- the heap holds the world -/
def wd_P (D : va_G) (cl : List vw_C) (A : Nat → Prop) (w : Wd) (H : Heap) : Prop :=
  ∃ L : List Nat, (∀ a, a ∈ L ↔ w a ≠ none) ∧ va_P D cl (va_pl L (wd_f w)) H ∧ va_D A (va_pl L (wd_f w))
theorem wd_in {w : Wd} {L : List Nat} (hL : ∀ a, a ∈ L ↔ w a ≠ none) {a : Nat} {e : va_E} (he : w a = some e) : ∃ k : Nat, (va_pl L (wd_f w))[k]? = some (a, e) := by
  have ha : a ∈ L := (hL a).mpr (by rw [he]; simp)
  obtain ⟨k, hk⟩ := va_pl_get (X := []) (f := wd_f w) ha
  exact ⟨k, by simpa [wd_f, he] using hk⟩
theorem wd_P.weaken {D : va_G} {cl : List vw_C} {A B : Nat → Prop} {w : Wd} {H : Heap} (h : wd_P D cl A w H) (hAB : ∀ q, A q → B q) : wd_P D cl B w H := by
  obtain ⟨L, hL, hP, hD⟩ := h
  exact ⟨L, hL, hP, hD.weaken (fun _ q _ h => hAB q.1 h)⟩
theorem wd_P.inA {D : va_G} {cl : List vw_C} {A : Nat → Prop} {w : Wd} {H : Heap} (h : wd_P D cl A w H) {q : Nat} (hq : w q ≠ none) : A q := by
  obtain ⟨L, hL, hP, hD⟩ := h
  obtain ⟨e, he⟩ := Option.ne_none_iff_exists'.mp hq
  obtain ⟨k, hk⟩ := wd_in hL he
  exact hD.2 k _ hk
theorem wd_P.lt {D : va_G} {cl : List vw_C} {A : Nat → Prop} {w : Wd} {H : Heap} (h : wd_P D cl A w H) {q : Nat} (hq : w q ≠ none) : q < H.size := by
  obtain ⟨L, hL, hP, hD⟩ := h
  obtain ⟨e, he⟩ := Option.ne_none_iff_exists'.mp hq
  obtain ⟨k, hk⟩ := wd_in hL he
  exact (hP k _ hk).lt
theorem wd_P.free {D : va_G} {cl : List vw_C} {A : Nat → Prop} {w : Wd} {H0 H : Heap} {locs : List Loc} (h : wd_P D cl A w H) (hS : va_S A H0 H locs) (hA : ∀ q, H0.size ≤ q → A q) : ∀ q, wd_A w H.size q → A q := fun q hq => by
  rcases hq with hq | hq
  · exact h.inA hq
  · exact hA q (Nat.le_trans hS.1 hq)
/-- a world whose cells are as they were -/
theorem wd_P.kept {D : va_G} {cl : List vw_C} {A : Nat → Prop} {w : Wd} {H H1 : Heap} (h : wd_P D cl A w H) (hq : ∀ q, w q ≠ none → H1[q]? = H[q]?) : wd_P D cl A w H1 := by
  obtain ⟨L, hL, hP, hD⟩ := h
  refine ⟨L, hL, hP.kept (fun k q hk => hq q.1 ?_), hD⟩
  have hm := List.mem_of_getElem? hk
  obtain ⟨a, ha, rfl⟩ := List.mem_map.mp hm
  exact (hL a).mp ha
theorem wd_set {D : va_G} {cl : List vw_C} {A : Nat → Prop} {w : Wd} {H1 : Heap} {L : List Nat} {a q0 : Nat} {e0 e : va_E} (hL : ∀ a, a ∈ L ↔ w a ≠ none) (hD : va_D A (va_pl L (wd_f w))) (he : w a = some e0) (hk : (va_pl L (wd_f w))[q0]? = some (a, e0)) (hP1 : va_P D cl ((va_pl L (wd_f w)).set q0 (a, e)) H1) (hD1 : va_D A ((va_pl L (wd_f w)).set q0 (a, e))) : wd_P D cl A (wd_up w a e) H1 := by
  have ha : a ∈ L := (hL a).mpr (by rw [he]; simp)
  have hf : wd_f w a = e0 := by simp [wd_f, he]
  have hs := va_pl_set (X := []) (f := wd_f w) (a := a) (k := q0) (e := e) (by simpa using hD) ha (by simpa [hf] using hk)
  simp only [List.nil_append] at hs
  rw [hs, ← wd_f_up] at hP1 hD1
  refine ⟨L, fun b => ?_, hP1, hD1⟩
  rw [hL b]
  by_cases hb : b = a
  · subst hb; simp [wd_up, he]
  · simp [wd_up, hb]
theorem wd_push {D : va_G} {cl : List vw_C} {A : Nat → Prop} {w : Wd} {H1 : Heap} {L : List Nat} {q : Nat} {e : va_E} (hL : ∀ a, a ∈ L ↔ w a ≠ none) (hP1 : va_P D cl (va_pl L (wd_f w) ++ [(q, e)]) H1) (hD1 : va_D A (va_pl L (wd_f w) ++ [(q, e)])) : w q = none ∧ wd_P D cl A (wd_up w q e) H1 := by
  have hq : q ∉ L := by
    intro h
    obtain ⟨k, hk⟩ := va_pl_get (X := []) (f := wd_f w) h
    rw [List.nil_append] at hk
    have hlt := (List.getElem?_eq_some_iff.mp hk).1
    have h1 : (va_pl L (wd_f w) ++ [(q, e)])[k]? = some (q, wd_f w q) := by rw [List.getElem?_append_left hlt]; exact hk
    have h2 : (va_pl L (wd_f w) ++ [(q, e)])[(va_pl L (wd_f w)).length]? = some (q, e) := by simp
    have := hD1.1 k _ _ _ h1 h2 rfl
    omega
  have hn : w q = none := by
    cases h : w q with
    | none => rfl
    | some x => exact absurd ((hL q).mpr (by rw [h]; simp)) hq
  rw [va_pl_push hq, ← wd_f_up] at hP1 hD1
  refine ⟨hn, L ++ [q], fun b => ?_, hP1, hD1⟩
  rw [List.mem_append, List.mem_singleton, hL b]
  by_cases hb : b = q
  · subst hb; simp [wd_up]
  · simp [wd_up, hb]
/-- what is known of the tables at every state of a run -/
def wd_Kok (KK : State → Prop) : Prop := (∀ s U : State, KK s → s.WarmedH U.vm → KK U) ∧ ∀ (U : State) (g : JFrame) (mk : MethodId) (a : Array Value), KK U → KK (U.calling g mk a)
/-- a contract's start -/
def wd_C (D : va_G) (cl : List vw_C) (KK : State → Prop) (av : List Value) (w : Wd) (sz : Nat) : Array Value → State → Prop := va_Pc av (fun U => U.heap.size = sz ∧ wd_P D cl (fun _ => True) w U.heap ∧ KK U)
abbrev wd_B (D : va_G) (cl : List vw_C) (A : Nat → Prop) : Wd → State → Prop := fun w' t => wd_P D cl A w' t.heap
/-- contracts of methods that answer an int (or a boolean), nothing, a reference -/
abbrev wd_Mi (l : Launch) (D : va_G) (cl : List vw_C) (KK : State → Prop) (y : MethodName) (ws : List Cond) (rm : Room) (av : List Value) (w : Wd) (sz : Nat) (post : Int32 → Wd → Prop) : Prop :=
  Met l y ws rm (wd_C D cl KK av w sz) (va_Qi post (wd_B D cl (wd_A w sz)) (wd_A w sz)) rm.cells rm.slots (wd_A w sz)
abbrev wd_Mv (l : Launch) (D : va_G) (cl : List vw_C) (KK : State → Prop) (y : MethodName) (ws : List Cond) (rm : Room) (av : List Value) (w : Wd) (sz : Nat) (post : Wd → Prop) : Prop :=
  Met l y ws rm (wd_C D cl KK av w sz) (va_Qv post (wd_B D cl (wd_A w sz)) (wd_A w sz)) rm.cells rm.slots (wd_A w sz)
abbrev wd_Mr (l : Launch) (D : va_G) (cl : List vw_C) (KK : State → Prop) (y : MethodName) (ws : List Cond) (rm : Room) (av : List Value) (w : Wd) (sz : Nat) (post : Wd × Nat → Prop) : Prop :=
  Met l y ws rm (wd_C D cl KK av w sz) (va_Qr post (fun u a t => a = u.2 ∧ wd_P D cl (wd_A w sz) u.1 t.heap) (wd_A w sz)) rm.cells rm.slots (wd_A w sz)
/-- the room of a method that stands d calls above its deepest leaf -/
def wd_rm (d mc ms : Nat) : Room := { frames := d, cells := mc, slots := ms, locals := 40 * d }
end
section
section WDR
variable {p : Program} {l : Launch} {e : Env} {R : Room} {s : State} {m : MethodId} {args : Array Value} {below : List Frame} {meth : Method} {c : Code} {H : Heap} {locs : List Loc} {cells slots : Nat} {Q : State → Prop}
variable {cc : ByteArray} {pc : Nat} {ls : Array Slot} {rest : List Value} {D : va_G} {cl : List vw_C} {A : Nat → Prop} {a : Nat} {tys : List (ClassId × FieldType)} {w : Wd} {H0 : Heap}
theorem wd_get (hexec : p.tables.exec = Jvm.exec) (hb : c.code = cc) {own ref C : String} {T : u_T} {N ci index : Nat} {Ts : List Cond} (hts : ∀ w ∈ Ts, w.before args s = true) (hin : ∀ w ∈ u_ws C T N, w ∈ Ts) (hown : s.vm.findClass own = some m.cls) (hK : va_K D cl tys s) (hW : wd_P D cl A w H) {fs : List Value} (he : w a = some (.inr (ci, fs))) (hc : cl[ci]? = some (C, T, N)) (k : Nat) (hk : k < N) (hlink : (Cond.fieldLink own index ref (T k).2.1 (T k).2.2.1).before args s = true) (hsame : ∀ x, s.fieldFound? (T k).1 (T k).2.1 (T k).2.2.1 = some x → s.fieldFound? ref (T k).2.1 (T k).2.2.1 = some x) {v : Value} (hv : fs[k]? = some v) (hdg : decode cc pc = .ok (.getfield index, 3))
    (kk : W p l e R s m args below meth c H locs cells slots Q (F0 m (pc + 3) ls (v :: rest))) : W p l e R s m args below meth c H locs cells slots Q (F0 m pc ls (.ref a :: rest)) := by
  obtain ⟨L, hL, hP, hD⟩ := hW
  obtain ⟨q0, hq⟩ := wd_in hL he
  exact va_get hexec hb hts hin hown hK hP q0 hq hc k hk hlink hsame hv hdg kk
theorem wd_put (hexec : p.tables.exec = Jvm.exec) (hb : c.code = cc) {own ref C : String} {T : u_T} {N ci index : Nat} {Ts : List Cond} (hts : ∀ w ∈ Ts, w.before args s = true) (hin : ∀ w ∈ u_ws C T N, w ∈ Ts) (ty0 : Nat → FieldType) (hty : ∀ k, k < N → parseFieldDescriptor (T k).2.2.1 = some (ty0 k)) (hnm : ∀ a, a < N → ∀ b, b < N → a ≠ b → (T a).2.1 ≠ (T b).2.1) (hown : s.vm.findClass own = some m.cls) (hK : va_K D cl tys s) (hW : wd_P D cl A w H) (hS0 : va_S A H0 H locs) {fs : List Value} (he : w a = some (.inr (ci, fs))) (hc : cl[ci]? = some (C, T, N)) (k : Nat) (hk : k < N) (hlink : (Cond.fieldLink own index ref (T k).2.1 (T k).2.2.1).before args s = true) (hsame : ∀ x, s.fieldFound? (T k).1 (T k).2.1 (T k).2.2.1 = some x → s.fieldFound? ref (T k).2.1 (T k).2.2.1 = some x) (hfin : (T k).2.2.2 = false) {ty : FieldType} {v : Value} (hd : parseFieldDescriptor (T k).2.2.1 = some ty) (hn : narrow ty v = v) (hfit : fits ty v = true) (hl : k < fs.length)
    (hdg : decode cc pc = .ok (.putfield index, 3)) (kk : ∀ (H1 : Heap) (locs1 : List Loc), wd_P D cl A (wd_up w a (.inr (ci, fs.set k v))) H1 → va_S A H0 H1 locs1 → W p l e R s m args below meth c H1 locs1 cells slots Q (F0 m (pc + 3) ls rest)) : W p l e R s m args below meth c H locs cells slots Q (F0 m pc ls (v :: .ref a :: rest)) := by
  obtain ⟨L, hL, hP, hD⟩ := hW
  obtain ⟨q0, hq⟩ := wd_in hL he
  exact va_put hexec hb hts hin ty0 hty hnm hown hK hP hD hS0 q0 hq hc k hk hlink hsame hfin hd hn hfit hl hdg (fun H1 locs1 hP1 hD1 hS1 => kk H1 locs1 (wd_set hL hD he hq hP1 hD1) hS1)
theorem wd_putF (hexec : p.tables.exec = Jvm.exec) (hb : c.code = cc) {own ref C : String} {T : u_T} {N ci index : Nat} {Ts : List Cond} (hts : ∀ w ∈ Ts, w.before args s = true) (hin : ∀ w ∈ u_ws C T N, w ∈ Ts) (ty0 : Nat → FieldType) (hty : ∀ k, k < N → parseFieldDescriptor (T k).2.2.1 = some (ty0 k)) (hnm : ∀ a, a < N → ∀ b, b < N → a ≠ b → (T a).2.1 ≠ (T b).2.1) (hown : s.vm.findClass own = some m.cls) (hK : va_K D cl tys s) (hW : wd_P D cl A w H) (hS0 : va_S A H0 H locs) {fs : List Value} (he : w a = some (.inr (ci, fs))) (hc : cl[ci]? = some (C, T, N)) (k : Nat) (hk : k < N) (hlink : (Cond.fieldLink own index ref (T k).2.1 (T k).2.2.1).before args s = true) (hsame : ∀ x, s.fieldFound? (T k).1 (T k).2.1 (T k).2.2.1 = some x → s.fieldFound? ref (T k).2.1 (T k).2.2.1 = some x) (hfin : (T k).2.2.2 = true) (hin2 : meth.name = "<init>") (hdecl : (T k).1 = own) {ty : FieldType} {v : Value} (hd : parseFieldDescriptor (T k).2.2.1 = some ty) (hn : narrow ty v = v) (hfit : fits ty v = true) (hl : k < fs.length)
    (hdg : decode cc pc = .ok (.putfield index, 3)) (kk : ∀ (H1 : Heap) (locs1 : List Loc), wd_P D cl A (wd_up w a (.inr (ci, fs.set k v))) H1 → va_S A H0 H1 locs1 → W p l e R s m args below meth c H1 locs1 cells slots Q (F0 m (pc + 3) ls rest)) : W p l e R s m args below meth c H locs cells slots Q (F0 m pc ls (v :: .ref a :: rest)) := by
  obtain ⟨L, hL, hP, hD⟩ := hW
  obtain ⟨q0, hq⟩ := wd_in hL he
  exact va_putF hexec hb hts hin ty0 hty hnm hown hK hP hD hS0 q0 hq hc k hk hlink hsame hfin hin2 hdecl hd hn hfit hl hdg (fun H1 locs1 hP1 hD1 hS1 => kk H1 locs1 (wd_set hL hD he hq hP1 hD1) hS1)
theorem wd_iald (hexec : p.tables.exec = Jvm.exec) (hb : c.code = cc) (hK : va_K D cl tys s) (hW : wd_P D cl A w H) (t0 : Nat) {cA : ClassId} {n : Nat} {f : Nat → Int32} (ha : w a = some (.inl (cA, n, .inl f))) (ht : tys[t0]? = some (cA, .int)) {i : Int32} (hin : vp_in i n) (hdg : decode cc pc = .ok (.iaload, 1))
    (kk : W p l e R s m args below meth c H locs cells slots Q (F0 m (pc + 1) ls (.int (f i.toNatClampNeg) :: rest))) : W p l e R s m args below meth c H locs cells slots Q (F0 m pc ls (.int i :: .ref a :: rest)) := by
  obtain ⟨L, hL, hP, hD⟩ := hW
  obtain ⟨q0, hq⟩ := wd_in hL ha
  exact va_iald hexec hb hK hP q0 t0 hq ht hin hdg kk
theorem wd_iast (hexec : p.tables.exec = Jvm.exec) (hb : c.code = cc) (hK : va_K D cl tys s) (hW : wd_P D cl A w H) (hS : va_S A H0 H locs) (t0 : Nat) {cA : ClassId} {n : Nat} {f : Nat → Int32} (ha : w a = some (.inl (cA, n, .inl f))) (ht : tys[t0]? = some (cA, .int)) {i : Int32} {x : Int32} (hin : vp_in i n) (hdg : decode cc pc = .ok (.iastore, 1))
    (kk : ∀ (H1 : Heap) (locs1 : List Loc), wd_P D cl A (wd_up w a (.inl (cA, n, .inl (upd f i.toNatClampNeg x)))) H1 → va_S A H0 H1 locs1 → W p l e R s m args below meth c H1 locs1 cells slots Q (F0 m (pc + 1) ls rest)) : W p l e R s m args below meth c H locs cells slots Q (F0 m pc ls (.int x :: .int i :: .ref a :: rest)) := by
  obtain ⟨L, hL, hP, hD⟩ := hW
  obtain ⟨q0, hq⟩ := wd_in hL ha
  exact va_iast hexec hb hK hP hD hS q0 t0 hq ht hin hdg (fun H1 locs1 hP1 hD1 hS1 => kk H1 locs1 (wd_set hL hD ha hq hP1 hD1) hS1)
theorem wd_alen (hexec : p.tables.exec = Jvm.exec) (hb : c.code = cc) (hK : va_K D cl tys s) (hW : wd_P D cl A w H) (t0 : Nat) {cA : ClassId} {x : vp_A} (ha : w a = some (.inl (cA, x))) {ty : FieldType} (ht : tys[t0]? = some (cA, ty)) (hdg : decode cc pc = .ok (.arraylength, 1))
    (kk : W p l e R s m args below meth c H locs cells slots Q (F0 m (pc + 1) ls (.int (nI x.1) :: rest))) : W p l e R s m args below meth c H locs cells slots Q (F0 m pc ls (.ref a :: rest)) := by
  obtain ⟨L, hL, hP, hD⟩ := hW
  obtain ⟨q0, hq⟩ := wd_in hL ha
  exact va_alen hexec hb hK hP q0 t0 hq ht rfl hdg kk
theorem wd_aldq (hexec : p.tables.exec = Jvm.exec) (hb : c.code = cc) (hK : va_K D cl tys s) (hW : wd_P D cl A w H) (t0 : Nat) {cA : ClassId} {C : String} {n : Nat} {f : Nat → Option Nat} (ha : w a = some (.inl (cA, n, .inr (.inr (.inr (.inr f)))))) (ht : tys[t0]? = some (cA, .object C)) {i : Int32} (hin : vp_in i n) (hdg : decode cc pc = .ok (.aaload, 1))
    (kk : W p l e R s m args below meth c H locs cells slots Q (F0 m (pc + 1) ls (va_rf (f i.toNatClampNeg) :: rest))) : W p l e R s m args below meth c H locs cells slots Q (F0 m pc ls (.int i :: .ref a :: rest)) := by
  obtain ⟨L, hL, hP, hD⟩ := hW
  obtain ⟨q0, hq⟩ := wd_in hL ha
  exact va_aldq hexec hb hK hP q0 t0 hq ht hin hdg kk
theorem wd_astq (hexec : p.tables.exec = Jvm.exec) (hb : c.code = cc) (hK : va_K D cl tys s) (hW : wd_P D cl A w H) (hS : va_S A H0 H locs) (t0 ci : Nat) {cA : ClassId} {r : vw_C} {n v : Nat} {vs : List Value} {f : Nat → Option Nat} (ha : w a = some (.inl (cA, n, .inr (.inr (.inr (.inr f)))))) (ht : tys[t0]? = some (cA, .object r.1)) (hv : w v = some (.inr (ci, vs))) (hc : cl[ci]? = some r) {i : Int32} (hin : vp_in i n) (hdg : decode cc pc = .ok (.aastore, 1))
    (kk : ∀ (H1 : Heap) (locs1 : List Loc), wd_P D cl A (wd_up w a (.inl (cA, n, .inr (.inr (.inr (.inr (va_up f i.toNatClampNeg (some v)))))))) H1 → va_S A H0 H1 locs1 → W p l e R s m args below meth c H1 locs1 cells slots Q (F0 m (pc + 1) ls rest)) : W p l e R s m args below meth c H locs cells slots Q (F0 m pc ls (.ref v :: .int i :: .ref a :: rest)) := by
  obtain ⟨L, hL, hP, hD⟩ := hW
  obtain ⟨q0, hq⟩ := wd_in hL ha
  obtain ⟨qk, hqk⟩ := wd_in hL hv
  exact va_astq hexec hb hK hP hD hS q0 t0 qk ci hq ht hqk hc hin hdg (fun H1 locs1 hP1 hD1 hS1 => kk H1 locs1 (wd_set hL hD ha hq hP1 hD1) hS1)
theorem wd_astqN (hexec : p.tables.exec = Jvm.exec) (hb : c.code = cc) (hK : va_K D cl tys s) (hW : wd_P D cl A w H) (hS : va_S A H0 H locs) (t0 : Nat) {cA : ClassId} {C : String} {n : Nat} {f : Nat → Option Nat} (ha : w a = some (.inl (cA, n, .inr (.inr (.inr (.inr f)))))) (ht : tys[t0]? = some (cA, .object C)) {i : Int32} (hin : vp_in i n) (hdg : decode cc pc = .ok (.aastore, 1))
    (kk : ∀ (H1 : Heap) (locs1 : List Loc), wd_P D cl A (wd_up w a (.inl (cA, n, .inr (.inr (.inr (.inr (va_up f i.toNatClampNeg none))))))) H1 → va_S A H0 H1 locs1 → W p l e R s m args below meth c H1 locs1 cells slots Q (F0 m (pc + 1) ls rest)) : W p l e R s m args below meth c H locs cells slots Q (F0 m pc ls (.null :: .int i :: .ref a :: rest)) := by
  obtain ⟨L, hL, hP, hD⟩ := hW
  obtain ⟨q0, hq⟩ := wd_in hL ha
  exact va_astqN hexec hb hK hP hD hS q0 t0 hq ht hin hdg (fun H1 locs1 hP1 hD1 hS1 => kk H1 locs1 (wd_set hL hD ha hq hP1 hD1) hS1)
theorem wd_copyi (hexec : p.tables.exec = Jvm.exec) (hb : c.code = cc) (hml : c.maxLocals = ls.size) {own : String} {index : Nat} (hown : s.vm.findClass own = some m.cls) (hlink : (Cond.methodLink own index arraycopyName).before args s = true) (hnat : (Cond.native arraycopyName).before args s = true) (hstat : (Cond.static arraycopyName).before args s = true) (hini : (Cond.initialized "java/lang/System").before args s = true)
    (hK : va_K D cl tys s) (hW : wd_P D cl A w H) (hS : va_S A H0 H locs) (t0 t1 : Nat) {a0 : Nat} {c0 c1 : ClassId} {n0 n1 : Nat} {f g : Nat → Int32} (ha0 : w a0 = some (.inl (c0, n0, .inl f))) (ha1 : w a = some (.inl (c1, n1, .inl g))) (ht0 : tys[t0]? = some (c0, .int)) (ht1 : tys[t1]? = some (c1, .int))
    {sp dp n : Int32} (h1 : ¬ sp < 0) (h2 : ¬ dp < 0) (h3 : ¬ n < 0) (h4 : sp.toNatClampNeg + n.toNatClampNeg ≤ n0) (h5 : dp.toNatClampNeg + n.toNatClampNeg ≤ n1)
    (hframes : 1 ≤ R.frames) (hlocals : (rest.map fun v => v.category).sum + (nativeFrameWords "java/lang/System" "arraycopy" 5 + 11) ≤ R.locals) (hdg : decode cc pc = .ok (.invokestatic index, 3))
    (kk : ∀ (H1 : Heap) (locs1 : List Loc), wd_P D cl A (wd_up w a (.inl (c1, n1, .inl (va_cpy f g sp.toNatClampNeg dp.toNatClampNeg n.toNatClampNeg)))) H1 → va_S A H0 H1 locs1 → W p l e R s m args below meth c H1 locs1 cells slots Q (F0 m (pc + 3) ls rest)) : W p l e R s m args below meth c H locs cells slots Q (F0 m pc ls (.int n :: .int dp :: .ref a :: .int sp :: .ref a0 :: rest)) := by
  obtain ⟨L, hL, hP, hD⟩ := hW
  obtain ⟨q0, hq0⟩ := wd_in hL ha0
  obtain ⟨q1, hq1⟩ := wd_in hL ha1
  exact va_copyi hexec hb hml hown hlink hnat hstat hini hK hP hD hS q0 q1 t0 t1 hq0 hq1 ht0 ht1 rfl h1 h2 h3 h4 h5 (fun _ _ => rfl) hframes hlocals hdg (fun H1 locs1 hP1 hD1 hS1 => kk H1 locs1 (wd_set hL hD ha1 hq1 hP1 hD1) hS1)
theorem wd_new (hexec : p.tables.exec = Jvm.exec) (hb : c.code = cc) {own C : String} {T : u_T} {N ci index : Nat} {Ts : List Cond} (hts : ∀ w ∈ Ts, w.before args s = true) (hin : ∀ w ∈ u_ws C T N, w ∈ Ts) (ty : Nat → FieldType) (hty : ∀ k, k < N → parseFieldDescriptor (T k).2.2.1 = some (ty k)) (hown : s.vm.findClass own = some m.cls) (hcl : (Cond.classLink own index C).before args s = true) (hinst : (Cond.instantiable C N).before args s = true) (hini : (Cond.initialized C).before args s = true)
    (hK : va_K D cl tys s) (hW : wd_P D cl A w H) (hS : va_S A H0 H locs) (hA : ∀ q, H0.size ≤ q → A q) (hc : cl[ci]? = some (C, T, N)) {fs : List Value} (hfs : ∀ j, j < N → defaultValue (ty j) = vp_V fs j) (hcells : cells + 1 ≤ R.cells) (hslots : slots + N ≤ R.slots) (hdg : decode cc pc = .ok (.new index, 3))
    (kk : ∀ (q : Nat) (H1 : Heap), w q = none → wd_P D cl A (wd_up w q (.inr (ci, fs))) H1 → va_S A H0 H1 locs →
      W p l e R s m args below meth c H1 locs (cells + 1) (slots + N) Q (F0 m (pc + 3) ls (.ref q :: rest))) : W p l e R s m args below meth c H locs cells slots Q (F0 m pc ls rest) := by
  obtain ⟨L, hL, hP, hD⟩ := hW
  exact va_new hexec hb hts hin ty hty hown hcl hinst hini hK hP hD hS hA hc hfs hcells hslots hdg (fun q H1 hP1 hD1 hS1 => by
    obtain ⟨h1, h2⟩ := wd_push hL hP1 hD1
    exact kk q H1 h1 h2 hS1)
/-- a new array of ints: its class is the one that the tables know -/
theorem wd_newi (hexec : p.tables.exec = Jvm.exec) (hb : c.code = cc) (harr : (Cond.arrayClass .int).before args s = true) (hK : va_K D cl tys s) (t0 : Nat) {cI : ClassId} (ht : tys[t0]? = some (cI, .int)) (hW : wd_P D cl A w H) (hS : va_S A H0 H locs) (hA : ∀ q, H0.size ≤ q → A q)
    {n : Int32} {N' : Nat} (hn : ¬ n < 0) (hN : n.toNatClampNeg = N') (hbytes : N' * 4 ≤ 536870912) (hcells : cells + 1 ≤ R.cells) (hslots : slots + N' ≤ R.slots) (hdg : decode cc pc = .ok (.newarray .int, 2))
    (kk : ∀ (q : Nat) (H1 : Heap), w q = none → wd_P D cl A (wd_up w q (.inl (cI, N', .inl (fun _ => 0)))) H1 → va_S A H0 H1 locs →
      W p l e R s m args below meth c H1 locs (cells + 1) (slots + N') Q (F0 m (pc + 2) ls (.ref q :: rest))) : W p l e R s m args below meth c H locs cells slots Q (F0 m pc ls (.int n :: rest)) := by
  obtain ⟨L, hL, hP, hD⟩ := hW
  refine va_newa (atype := .int) (ty := .int) (a0 := (N', .inl (fun _ => 0))) hexec hb harr rfl hK hP hD hS hA (fun cA => rfl) hn hN hbytes hcells hslots hdg (fun q cA H1 hK1 hP1 hD1 hS1 => ?_)
  have e1 := va_nm_int (hK.2 t0 _ ht).2
  have e2 := va_nm_int (hK1.2 tys.length (cA, .int) (by simp)).2
  have e3 : cA = cI := Option.some.inj (e2.symm.trans e1)
  subst e3
  obtain ⟨h1, h2⟩ := wd_push hL hP1 hD1
  exact kk q H1 h1 h2 hS1
theorem wd_newq (hexec : p.tables.exec = Jvm.exec) (hb : c.code = cc) {own C : String} {index : Nat} (hown : s.vm.findClass own = some m.cls) (hclink : (Cond.classLink own index C).before args s = true) (hover : va_AO C s) (hK : va_K D cl tys s) (t0 : Nat) {cT : ClassId} (ht : tys[t0]? = some (cT, .object C)) (hW : wd_P D cl A w H) (hS : va_S A H0 H locs) (hA : ∀ q, H0.size ≤ q → A q)
    {n : Int32} {N' : Nat} (hn : ¬ n < 0) (hN : n.toNatClampNeg = N') (hbytes : N' * 4 ≤ 536870912) (hcells : cells + 1 ≤ R.cells) (hslots : slots + N' ≤ R.slots) (hdg : decode cc pc = .ok (.anewarray index, 3))
    (kk : ∀ (q : Nat) (H1 : Heap), w q = none → wd_P D cl A (wd_up w q (.inl (cT, N', .inr (.inr (.inr (.inr (fun _ => none))))))) H1 → va_S A H0 H1 locs →
      W p l e R s m args below meth c H1 locs (cells + 1) (slots + N') Q (F0 m (pc + 3) ls (.ref q :: rest))) : W p l e R s m args below meth c H locs cells slots Q (F0 m pc ls (.int n :: rest)) := by
  obtain ⟨L, hL, hP, hD⟩ := hW
  refine va_newq hexec hb hown hclink hover hK hP hD hS hA hn hN hbytes hcells hslots hdg (fun q cA H1 hK1 hP1 hD1 hS1 => ?_)
  obtain ⟨_, _, _, _, _, e1⟩ := (hK.2 t0 _ ht).2
  obtain ⟨_, _, _, _, _, e2⟩ := (hK1.2 tys.length (cA, .object C) (by simp)).2
  have e3 : cA = cT := Option.some.inj (e2.symm.trans e1)
  subst e3
  obtain ⟨h1, h2⟩ := wd_push hL hP1 hD1
  exact kk q H1 h1 h2 hS1
theorem wd_callVi {post : Int32 → Wd → Prop} {own : String} {C : String} {index : Nat} {y : MethodName} {bytes : ByteArray} {maxL nL mc ms n : Nat} {ret : Option FieldType} {ws Ts : List Cond} {rm : Room} {As st : List Value} {b : Nat} {KK : State → Prop} (S : CallFix p m c cc nL s args Ts own)
    (hM : Met l y ws rm (wd_C D cl KK (.ref b :: As) w H.size) (va_Qi post (wd_B D cl (wd_A w H.size)) (wd_A w H.size)) mc ms (wd_A w H.size))
    (cw : CallW R s args own C index y bytes maxL ret ws rm mc ms n) (hk : wd_Kok KK) (hK : KK s) (hW : wd_P D cl A w H) (hrecv : ∃ cellB : Cell, H[b]? = some cellB ∧ cellB.vm.isStatics = false ∧ s.vm.findClass C = some cellB.cls) (hS : va_S A H0 H locs) (hA : ∀ q, H0.size ≤ q → A q)
    (hn : As.length = n) (hsize : ls.size = nL) (hst : st = As.reverse ++ .ref b :: rest) (hrest : (rest.map fun v => v.category).sum ≤ 8) (hdg : decode cc pc = .ok (.invokevirtual index, 3)) (hf : cells + mc ≤ R.cells ∧ slots + ms ≤ R.slots)
    (kk : ∀ (r : Int32) (w' : Wd) (H1 : Heap) (locs1 : List Loc), post r w' → wd_P D cl A w' H1 → H.size ≤ H1.size → va_S A H0 H1 locs1 → W p l e R s m args below meth c H1 locs1 (cells + mc) (slots + ms) Q (F0 m (pc + 3) ls (.int r :: rest))) : W p l e R s m args below meth c H locs cells slots Q (F0 m pc ls st) := by
  subst hst
  have hAA := hW.free hS hA
  refine va_calli (va_runV (As := As) (rest := rest) S hM cw ⟨fun a U g mk q => by obtain ⟨q0, q1, q2, q3⟩ := q; exact ⟨q0, q1, q2, hk.2 _ _ _ _ q3⟩, hrecv, fun U hU hWm => ⟨rfl, by rw [hU], by rw [hU]; exact hW.weaken (fun _ _ => trivial), hk.1 _ _ hK hWm⟩⟩ rfl hn hsize rfl (lv_room hrest) hdg hf) hS (fun q _ h => hAA q h) hAA (fun r w' t H1 locs1 ht hvm hw hB hz1 hk1 hS1 => ?_)
  exact kk r w' H1 locs1 hw (wd_P.weaken (by rw [← ht]; exact hB) hAA) hz1 hS1
theorem wd_callVv {post : Wd → Prop} {own : String} {C : String} {index : Nat} {y : MethodName} {bytes : ByteArray} {maxL nL mc ms n : Nat} {ret : Option FieldType} {ws Ts : List Cond} {rm : Room} {As st : List Value} {b : Nat} {KK : State → Prop} (S : CallFix p m c cc nL s args Ts own)
    (hM : Met l y ws rm (wd_C D cl KK (.ref b :: As) w H.size) (va_Qv post (wd_B D cl (wd_A w H.size)) (wd_A w H.size)) mc ms (wd_A w H.size))
    (cw : CallW R s args own C index y bytes maxL ret ws rm mc ms n) (hk : wd_Kok KK) (hK : KK s) (hW : wd_P D cl A w H) (hrecv : ∃ cellB : Cell, H[b]? = some cellB ∧ cellB.vm.isStatics = false ∧ s.vm.findClass C = some cellB.cls) (hS : va_S A H0 H locs) (hA : ∀ q, H0.size ≤ q → A q)
    (hn : As.length = n) (hsize : ls.size = nL) (hst : st = As.reverse ++ .ref b :: rest) (hrest : (rest.map fun v => v.category).sum ≤ 8) (hdg : decode cc pc = .ok (.invokevirtual index, 3)) (hf : cells + mc ≤ R.cells ∧ slots + ms ≤ R.slots)
    (kk : ∀ (w' : Wd) (H1 : Heap) (locs1 : List Loc), post w' → wd_P D cl A w' H1 → H.size ≤ H1.size → va_S A H0 H1 locs1 → W p l e R s m args below meth c H1 locs1 (cells + mc) (slots + ms) Q (F0 m (pc + 3) ls rest)) : W p l e R s m args below meth c H locs cells slots Q (F0 m pc ls st) := by
  subst hst
  have hAA := hW.free hS hA
  refine va_callv (va_runV (As := As) (rest := rest) S hM cw ⟨fun a U g mk q => by obtain ⟨q0, q1, q2, q3⟩ := q; exact ⟨q0, q1, q2, hk.2 _ _ _ _ q3⟩, hrecv, fun U hU hWm => ⟨rfl, by rw [hU], by rw [hU]; exact hW.weaken (fun _ _ => trivial), hk.1 _ _ hK hWm⟩⟩ rfl hn hsize rfl (lv_room hrest) hdg hf) hS (fun q _ h => hAA q h) hAA (fun w' t H1 locs1 ht hvm hw hB hz1 hk1 hS1 => ?_)
  exact kk w' H1 locs1 hw (wd_P.weaken (by rw [← ht]; exact hB) hAA) hz1 hS1
theorem wd_callSi {post : Int32 → Wd → Prop} {own : String} {index : Nat} {y : MethodName} {bytes : ByteArray} {maxL nL mc ms n : Nat} {ret : Option FieldType} {ws Ts : List Cond} {rm : Room} {As st : List Value} {KK : State → Prop} (S : CallFix p m c cc nL s args Ts own)
    (hM : Met l y ws rm (wd_C D cl KK As w H.size) (va_Qi post (wd_B D cl (wd_A w H.size)) (wd_A w H.size)) mc ms (wd_A w H.size))
    (cw : CallB R s args own index y bytes maxL ret ws rm mc ms n ∧ (Cond.static y).before args s = true) (hk : wd_Kok KK) (hK : KK s) (hW : wd_P D cl A w H) (hS : va_S A H0 H locs) (hA : ∀ q, H0.size ≤ q → A q)
    (hn : As.length = n) (hsize : ls.size = nL) (hst : st = As.reverse ++ rest) (hrest : (rest.map fun v => v.category).sum ≤ 8) (hdg : decode cc pc = .ok (.invokestatic index, 3)) (hf : cells + mc ≤ R.cells ∧ slots + ms ≤ R.slots)
    (kk : ∀ (r : Int32) (w' : Wd) (H1 : Heap) (locs1 : List Loc), post r w' → wd_P D cl A w' H1 → H.size ≤ H1.size → va_S A H0 H1 locs1 → W p l e R s m args below meth c H1 locs1 (cells + mc) (slots + ms) Q (F0 m (pc + 3) ls (.int r :: rest))) : W p l e R s m args below meth c H locs cells slots Q (F0 m pc ls st) := by
  subst hst
  have hAA := hW.free hS hA
  refine va_calli (va_runS (As := As) (rest := rest) S hM cw ⟨fun a U g mk q => by obtain ⟨q0, q1, q2, q3⟩ := q; exact ⟨q0, q1, q2, hk.2 _ _ _ _ q3⟩, fun U hU hWm => ⟨rfl, by rw [hU], by rw [hU]; exact hW.weaken (fun _ _ => trivial), hk.1 _ _ hK hWm⟩⟩ rfl hn hsize rfl (lv_room hrest) hdg hf) hS (fun q _ h => hAA q h) hAA (fun r w' t H1 locs1 ht hvm hw hB hz1 hk1 hS1 => ?_)
  exact kk r w' H1 locs1 hw (wd_P.weaken (by rw [← ht]; exact hB) hAA) hz1 hS1
theorem wd_callSv {post : Wd → Prop} {own : String} {index : Nat} {y : MethodName} {bytes : ByteArray} {maxL nL mc ms n : Nat} {ret : Option FieldType} {ws Ts : List Cond} {rm : Room} {As st : List Value} {KK : State → Prop} (S : CallFix p m c cc nL s args Ts own)
    (hM : Met l y ws rm (wd_C D cl KK As w H.size) (va_Qv post (wd_B D cl (wd_A w H.size)) (wd_A w H.size)) mc ms (wd_A w H.size))
    (cw : CallB R s args own index y bytes maxL ret ws rm mc ms n ∧ (Cond.static y).before args s = true) (hk : wd_Kok KK) (hK : KK s) (hW : wd_P D cl A w H) (hS : va_S A H0 H locs) (hA : ∀ q, H0.size ≤ q → A q)
    (hn : As.length = n) (hsize : ls.size = nL) (hst : st = As.reverse ++ rest) (hrest : (rest.map fun v => v.category).sum ≤ 8) (hdg : decode cc pc = .ok (.invokestatic index, 3)) (hf : cells + mc ≤ R.cells ∧ slots + ms ≤ R.slots)
    (kk : ∀ (w' : Wd) (H1 : Heap) (locs1 : List Loc), post w' → wd_P D cl A w' H1 → H.size ≤ H1.size → va_S A H0 H1 locs1 → W p l e R s m args below meth c H1 locs1 (cells + mc) (slots + ms) Q (F0 m (pc + 3) ls rest)) : W p l e R s m args below meth c H locs cells slots Q (F0 m pc ls st) := by
  subst hst
  have hAA := hW.free hS hA
  refine va_callv (va_runS (As := As) (rest := rest) S hM cw ⟨fun a U g mk q => by obtain ⟨q0, q1, q2, q3⟩ := q; exact ⟨q0, q1, q2, hk.2 _ _ _ _ q3⟩, fun U hU hWm => ⟨rfl, by rw [hU], by rw [hU]; exact hW.weaken (fun _ _ => trivial), hk.1 _ _ hK hWm⟩⟩ rfl hn hsize rfl (lv_room hrest) hdg hf) hS (fun q _ h => hAA q h) hAA (fun w' t H1 locs1 ht hvm hw hB hz1 hk1 hS1 => ?_)
  exact kk w' H1 locs1 hw (wd_P.weaken (by rw [← ht]; exact hB) hAA) hz1 hS1
theorem wd_callSr {post : Wd × Nat → Prop} {own : String} {index : Nat} {y : MethodName} {bytes : ByteArray} {maxL nL mc ms n : Nat} {ret : Option FieldType} {ws Ts : List Cond} {rm : Room} {As st : List Value} {KK : State → Prop} (S : CallFix p m c cc nL s args Ts own)
    (hM : Met l y ws rm (wd_C D cl KK As w H.size) (va_Qr post (fun u a t => a = u.2 ∧ wd_P D cl (wd_A w H.size) u.1 t.heap) (wd_A w H.size)) mc ms (wd_A w H.size))
    (cw : CallB R s args own index y bytes maxL ret ws rm mc ms n ∧ (Cond.static y).before args s = true) (hk : wd_Kok KK) (hK : KK s) (hW : wd_P D cl A w H) (hS : va_S A H0 H locs) (hA : ∀ q, H0.size ≤ q → A q)
    (hn : As.length = n) (hsize : ls.size = nL) (hst : st = As.reverse ++ rest) (hrest : (rest.map fun v => v.category).sum ≤ 8) (hdg : decode cc pc = .ok (.invokestatic index, 3)) (hf : cells + mc ≤ R.cells ∧ slots + ms ≤ R.slots)
    (kk : ∀ (w' : Wd) (ra : Nat) (H1 : Heap) (locs1 : List Loc), post (w', ra) → wd_P D cl A w' H1 → H.size ≤ H1.size → va_S A H0 H1 locs1 → W p l e R s m args below meth c H1 locs1 (cells + mc) (slots + ms) Q (F0 m (pc + 3) ls (.ref ra :: rest))) : W p l e R s m args below meth c H locs cells slots Q (F0 m pc ls st) := by
  subst hst
  have hAA := hW.free hS hA
  refine va_callr (va_runS (As := As) (rest := rest) S hM cw ⟨fun a U g mk q => by obtain ⟨q0, q1, q2, q3⟩ := q; exact ⟨q0, q1, q2, hk.2 _ _ _ _ q3⟩, fun U hU hWm => ⟨rfl, by rw [hU], by rw [hU]; exact hW.weaken (fun _ _ => trivial), hk.1 _ _ hK hWm⟩⟩ rfl hn hsize rfl (lv_room hrest) hdg hf) hS (fun q _ h => hAA q h) hAA (fun u ra t H1 locs1 ht hvm hw hB hz1 hk1 hS1 => ?_)
  exact kk u.1 ra H1 locs1 (by rw [hB.1]; exact hw) (wd_P.weaken (by rw [← ht]; exact hB.2) hAA) hz1 hS1
theorem wd_callIv {post : Wd → Prop} {own : String} {index : Nat} {y : MethodName} {bytes : ByteArray} {maxL nL mc ms n : Nat} {ws Ts : List Cond} {rm : Room} {As st : List Value} {b : Nat} {KK : State → Prop} (S : CallFix p m c cc nL s args Ts own)
    (hM : Met l y ws rm (wd_C D cl KK (.ref b :: As) w H.size) (va_Qv post (wd_B D cl (wd_A w H.size)) (wd_A w H.size)) mc ms (wd_A w H.size))
    (cw : CallB R s args own index y bytes maxL none ws rm mc ms n ∧ y.name = "<init>" ∧ (Cond.instanceMethod y).before args s = true) (hk : wd_Kok KK) (hK : KK s) (hW : wd_P D cl A w H) (hS : va_S A H0 H locs) (hA : ∀ q, H0.size ≤ q → A q)
    (hn : As.length = n) (hsize : ls.size = nL) (hst : st = As.reverse ++ .ref b :: rest) (hrest : (rest.map fun v => v.category).sum ≤ 8) (hdg : decode cc pc = .ok (.invokespecial index, 3)) (hf : cells + mc ≤ R.cells ∧ slots + ms ≤ R.slots)
    (kk : ∀ (w' : Wd) (H1 : Heap) (locs1 : List Loc), post w' → wd_P D cl A w' H1 → H.size ≤ H1.size → va_S A H0 H1 locs1 → W p l e R s m args below meth c H1 locs1 (cells + mc) (slots + ms) Q (F0 m (pc + 3) ls rest)) : W p l e R s m args below meth c H locs cells slots Q (F0 m pc ls st) := by
  subst hst
  have hAA := hW.free hS hA
  refine va_callv (va_runI (As := As) (rest := rest) S hM cw ⟨fun a U g mk q => by obtain ⟨q0, q1, q2, q3⟩ := q; exact ⟨q0, q1, q2, hk.2 _ _ _ _ q3⟩, fun U hU hWm => ⟨rfl, by rw [hU], by rw [hU]; exact hW.weaken (fun _ _ => trivial), hk.1 _ _ hK hWm⟩⟩ rfl hn hsize rfl (lv_room hrest) hdg hf) hS (fun q _ h => hAA q h) hAA (fun w' t H1 locs1 ht hvm hw hB hz1 hk1 hS1 => ?_)
  exact kk w' H1 locs1 hw (wd_P.weaken (by rw [← ht]; exact hB) hAA) hz1 hS1
theorem wd_callSNi {post : Int32 → Wd → Prop} {own : String} {host : String} {index : Nat} {y : MethodName} {bytes : ByteArray} {maxL nL mc ms n : Nat} {ret : Option FieldType} {ws Ts : List Cond} {rm : Room} {As st : List Value} {KK : State → Prop} (S : CallFix p m c cc nL s args Ts own)
    (hM : Met l y ws rm (wd_C D cl KK As w H.size) (va_Qi post (wd_B D cl (wd_A w H.size)) (wd_A w H.size)) mc ms (wd_A w H.size))
    (cw : va_CN R s args own index y host bytes maxL ret ws rm mc ms n ∧ (Cond.static y).before args s = true ∧ True) (hk : wd_Kok KK) (hK : KK s) (hW : wd_P D cl A w H) (hS : va_S A H0 H locs) (hA : ∀ q, H0.size ≤ q → A q)
    (hn : As.length = n) (hsize : ls.size = nL) (hst : st = As.reverse ++ rest) (hrest : (rest.map fun v => v.category).sum ≤ 8) (hdg : decode cc pc = .ok (.invokestatic index, 3)) (hf : cells + mc ≤ R.cells ∧ slots + ms ≤ R.slots)
    (kk : ∀ (r : Int32) (w' : Wd) (H1 : Heap) (locs1 : List Loc), post r w' → wd_P D cl A w' H1 → H.size ≤ H1.size → va_S A H0 H1 locs1 → W p l e R s m args below meth c H1 locs1 (cells + mc) (slots + ms) Q (F0 m (pc + 3) ls (.int r :: rest))) : W p l e R s m args below meth c H locs cells slots Q (F0 m pc ls st) := by
  subst hst
  have hAA := hW.free hS hA
  refine va_calli (va_runSN (As := As) (rest := rest) S hM cw ⟨fun a U g mk q => by obtain ⟨q0, q1, q2, q3⟩ := q; exact ⟨q0, q1, q2, hk.2 _ _ _ _ q3⟩, fun U hU hWm => ⟨rfl, by rw [hU], by rw [hU]; exact hW.weaken (fun _ _ => trivial), hk.1 _ _ hK hWm⟩⟩ rfl hn hsize rfl (lv_room hrest) hdg hf) hS (fun q _ h => hAA q h) hAA (fun r w' t H1 locs1 ht hvm hw hB hz1 hk1 hS1 => ?_)
  exact kk r w' H1 locs1 hw (wd_P.weaken (by rw [← ht]; exact hB) hAA) hz1 hS1
theorem wd_callSNv {post : Wd → Prop} {own : String} {host : String} {index : Nat} {y : MethodName} {bytes : ByteArray} {maxL nL mc ms n : Nat} {ret : Option FieldType} {ws Ts : List Cond} {rm : Room} {As st : List Value} {KK : State → Prop} (S : CallFix p m c cc nL s args Ts own)
    (hM : Met l y ws rm (wd_C D cl KK As w H.size) (va_Qv post (wd_B D cl (wd_A w H.size)) (wd_A w H.size)) mc ms (wd_A w H.size))
    (cw : va_CN R s args own index y host bytes maxL ret ws rm mc ms n ∧ (Cond.static y).before args s = true ∧ True) (hk : wd_Kok KK) (hK : KK s) (hW : wd_P D cl A w H) (hS : va_S A H0 H locs) (hA : ∀ q, H0.size ≤ q → A q)
    (hn : As.length = n) (hsize : ls.size = nL) (hst : st = As.reverse ++ rest) (hrest : (rest.map fun v => v.category).sum ≤ 8) (hdg : decode cc pc = .ok (.invokestatic index, 3)) (hf : cells + mc ≤ R.cells ∧ slots + ms ≤ R.slots)
    (kk : ∀ (w' : Wd) (H1 : Heap) (locs1 : List Loc), post w' → wd_P D cl A w' H1 → H.size ≤ H1.size → va_S A H0 H1 locs1 → W p l e R s m args below meth c H1 locs1 (cells + mc) (slots + ms) Q (F0 m (pc + 3) ls rest)) : W p l e R s m args below meth c H locs cells slots Q (F0 m pc ls st) := by
  subst hst
  have hAA := hW.free hS hA
  refine va_callv (va_runSN (As := As) (rest := rest) S hM cw ⟨fun a U g mk q => by obtain ⟨q0, q1, q2, q3⟩ := q; exact ⟨q0, q1, q2, hk.2 _ _ _ _ q3⟩, fun U hU hWm => ⟨rfl, by rw [hU], by rw [hU]; exact hW.weaken (fun _ _ => trivial), hk.1 _ _ hK hWm⟩⟩ rfl hn hsize rfl (lv_room hrest) hdg hf) hS (fun q _ h => hAA q h) hAA (fun w' t H1 locs1 ht hvm hw hB hz1 hk1 hS1 => ?_)
  exact kk w' H1 locs1 hw (wd_P.weaken (by rw [← ht]; exact hB) hAA) hz1 hS1
theorem wd_recv {ci : Nat} {q : vw_C} {fs : List Value} (hK : va_K D cl tys s) (hW : wd_P D cl A w H) (hc : cl[ci]? = some q) (he : w a = some (.inr (ci, fs))) : ∃ cell : Cell, H[a]? = some cell ∧ cell.vm.isStatics = false ∧ s.vm.findClass q.1 = some cell.cls := by
  obtain ⟨L, hL, hP, hD⟩ := hW
  obtain ⟨q0, hq⟩ := wd_in hL he
  exact va_recv hK hP hc hq
/-- ends -/
theorem wd_iret {post : Int32 → Wd → Prop} {w0 : Wd} {v : Int32} (hexec : p.tables.exec = Jvm.exec) (hb : c.code = cc) (hr : meth.sig.returnType = some .int) (hlocks : meth.locks = false) (hW : wd_P D cl (wd_A w0 s.heap.size) w H) (hS : va_S (wd_A w0 s.heap.size) s.heap H locs) (hdg : decode cc pc = .ok (.ireturn, 1)) (hp : post v w) :
    W p l e R s m args below meth c H locs cells slots (MQ below (va_Qi post (wd_B D cl (wd_A w0 s.heap.size)) (wd_A w0 s.heap.size)) args s cells slots (wd_A w0 s.heap.size)) (F0 m pc ls [.int v]) :=
  W.iret hexec hb hr (fun t ht hWm => ⟨⟨v, w, rfl, hp, by rw [wd_B, ht]; exact hW⟩, hS.F ht⟩) hS.2.2 hdg hlocks
theorem wd_zret {post : Int32 → Wd → Prop} {w0 : Wd} {v : Int32} (hexec : p.tables.exec = Jvm.exec) (hb : c.code = cc) (hr : meth.sig.returnType = some .boolean) (hlocks : meth.locks = false) (hn : v = 0 ∨ v = 1) (hW : wd_P D cl (wd_A w0 s.heap.size) w H) (hS : va_S (wd_A w0 s.heap.size) s.heap H locs) (hdg : decode cc pc = .ok (.ireturn, 1)) (hp : post v w) :
    W p l e R s m args below meth c H locs cells slots (MQ below (va_Qi post (wd_B D cl (wd_A w0 s.heap.size)) (wd_A w0 s.heap.size)) args s cells slots (wd_A w0 s.heap.size)) (F0 m pc ls [.int v]) :=
  W.zret hexec hb hr (by rcases hn with h | h <;> subst h <;> decide) (fun t ht hWm => ⟨⟨v, w, rfl, hp, by rw [wd_B, ht]; exact hW⟩, hS.F ht⟩) hS.2.2 hdg hlocks
theorem wd_vret {post : Wd → Prop} {w0 : Wd} (hexec : p.tables.exec = Jvm.exec) (hb : c.code = cc) (hr : meth.sig.returnType = none) (hlocks : meth.locks = false) (hW : wd_P D cl (wd_A w0 s.heap.size) w H) (hS : va_S (wd_A w0 s.heap.size) s.heap H locs) (hdg : decode cc pc = .ok (.return_, 1)) (hp : post w) :
    W p l e R s m args below meth c H locs cells slots (MQ below (va_Qv post (wd_B D cl (wd_A w0 s.heap.size)) (wd_A w0 s.heap.size)) args s cells slots (wd_A w0 s.heap.size)) (F0 m pc ls []) :=
  W.vret hexec hb hr (fun t ht hWm => ⟨⟨w, rfl, hp, by rw [wd_B, ht]; exact hW⟩, hS.F ht⟩) hS.2.2 hdg hlocks
theorem wd_aret {post : Wd × Nat → Prop} {w0 : Wd} {ra : Nat} {rt : FieldType} (hexec : p.tables.exec = Jvm.exec) (hb : c.code = cc) (hr : meth.sig.returnType = some rt) (hrt : (∃ n, rt = .object n) ∨ ∃ t, rt = .array t) (hlocks : meth.locks = false) (hW : wd_P D cl (wd_A w0 s.heap.size) w H) (hS : va_S (wd_A w0 s.heap.size) s.heap H locs) (hdg : decode cc pc = .ok (.areturn, 1)) (hp : post (w, ra)) :
    W p l e R s m args below meth c H locs cells slots (MQ below (va_Qr post (fun u a t => a = u.2 ∧ wd_P D cl (wd_A w0 s.heap.size) u.1 t.heap) (wd_A w0 s.heap.size)) args s cells slots (wd_A w0 s.heap.size)) (F0 m pc ls [.ref ra]) :=
  W.aret hexec hb hr hrt (Or.inr ⟨ra, rfl⟩) (fun t ht hWm => ⟨⟨(w, ra), ra, rfl, hp, rfl, by rw [ht]; exact hW⟩, hS.F ht⟩) hS.2.2 hdg hlocks
end WDR
/-- a contract out of a walk -/
def wd_At (p : Program) (y : MethodName) (ws : List Cond) (cc : ByteArray) (maxL : Nat) (ret : Option FieldType) (av : List Value) (s : State) (m : MethodId) (meth : Method) (c : Code) : Prop :=
  p.tables.exec = Jvm.exec ∧ c.code = cc ∧ meth.sig.returnType = ret ∧ c.maxLocals = maxL ∧ s.vm.findClass y.cls = some m.cls ∧ (∀ w ∈ ws, w.before av.toArray s = true) ∧ meth.locks = false ∧ meth.name = y.name
theorem wd_met {l : Launch} {D : va_G} {cl : List vw_C} {KK : State → Prop} {y : MethodName} {ws ws' : List Cond} {rm : Room} {cc : ByteArray} {maxL : Nat} {ret : Option FieldType} {av : List Value} {w : Wd} {sz mc ms : Nat} {Qc : Array Value → State → Outcome → State → Prop} (hy : plainName y.cls = true) (hw : ws = Cond.code y cc maxL ret :: ws') (hlen : (lg_sl av).length ≤ maxL)
    (body : ∀ (p : Program) (e : Env) (s : State) (m : MethodId) (below : List Frame) (meth : Method) (c : Code) (ls : Array Slot), wd_At p y ws cc maxL ret av s m meth c → s.heap.size = sz → KK s → wd_P D cl (wd_A w s.heap.size) w s.heap → lv_has ls maxL (lv_args 0 av) →
      W p l e rm s m av.toArray below meth c s.heap [] 0 0 (MQ below Qc av.toArray s mc ms (wd_A w s.heap.size)) (F0 m 0 ls [])) : Met l y ws rm (wd_C D cl KK av w sz) Qc mc ms (wd_A w sz) := by
  refine Met.ofW (cc := cc) (maxL := maxL) (ret := ret) hy hw ?_
  intro p e s m args below meth c s₁ B hml hv
  obtain ⟨rfl, hsz, hP, hK⟩ := hv
  subst hsz
  rw [lg_entry_eq]
  have hl := lv_entry av (n := maxL) hlen
  refine body p e s m below meth c _ ⟨B.exec, B.bytes, B.returns, hml, findClass_of_methodNamed B.named, atoms_spec (ws := ws) B.pre, B.notSynchronized, (name_of_methodNamed B.named B.method).1⟩ rfl hK ?_ hl
  obtain ⟨L, hL, hP1, hD⟩ := hP
  exact ⟨L, hL, hP1, hD.1, fun k q hk => Or.inl ((hL q.1).mp (by obtain ⟨a, ha, rfl⟩ := List.mem_map.mp (List.mem_of_getElem? hk); exact ha))⟩
end
section
/-! THE CLASS'S METHODS AS FUNCTIONS (mirrors of the code, total; no machine) -/
abbrev j_b (P : Prop) [Decidable P] : Int32 := if P then 1 else 0
theorem j_b0 {P : Prop} [Decidable P] (h : j_b P = 0) : ¬ P := fun hp => by simp [j_b, hp] at h
theorem j_bn {P : Prop} [Decidable P] (h : ¬ j_b P = 0) : P := by
  by_cases hp : P
  · exact hp
  · exact absurd (by simp [j_b, hp]) h
theorem j_b01 (P : Prop) [Decidable P] : j_b P = 0 ∨ j_b P = 1 := by by_cases hp : P <;> simp [j_b, hp]
abbrev j_noText (t : Int32) : Prop := t < 0 ∨ 10 ≤ t
abbrev j_noPoint (p : Int32) : Prop := p < 0 ∨ 1114111 < p
abbrev j_noForm (f : Int32) : Prop := f < 0 ∨ 3 < f
abbrev j_noWay (w : Int32) : Prop := w ≠ 0 ∧ w ≠ 1
abbrev j_high (u : Int32) : Prop := 55296 ≤ u ∧ u < 56320
abbrev j_low (u : Int32) : Prop := 56320 ≤ u ∧ u ≤ 57343
def j_uc (p : Int32) : Int32 := if p < 65536 then 1 else 2
def j_mask (s : Int32) : Int32 := if s = 2 then 255 else 65535
abbrev j_ins (g : Nat → Int32) (len : Nat) (n k : Int32) : Prop := ¬ (k < 1 ∨ n ≤ k ∨ nI len ≤ k) ∧ j_high (g (k - 1).toNatClampNeg) ∧ j_low (g k.toNatClampNeg)
def j_pp (g : Nat → Int32) (len : Nat) (k : Int32) : Int32 := if k < 0 ∨ nI len - 1 ≤ k then 0 else 65536 + (g k.toNatClampNeg - 55296) * 1024 + (g (k + 1).toNatClampNeg - 56320)
abbrev j_beyond (len : Nat) (i n : Int32) : Prop := i < 0 ∨ n < 0 ∨ nI len < i ∨ nI len - i < n
abbrev j_parts (kd : Int32) (g : Nat → Int32) (len : Nat) (k : Int32) : Prop := kd = 0 ∧ j_ins g len (nI len) k
def j_bc (x : Int32) : Int32 := if x < 128 then 1 else if x < 194 ∨ 244 < x then 0 else if x < 224 then 2 else if x < 240 then 3 else 4
def j_fbo (c : Int32) : Int32 := if c = 2 then 192 else if c = 3 then 224 else if c = 4 then 240 else 0
abbrev j_told (p c : Int32) : Prop := if c = 3 then 2048 ≤ p ∧ ¬ j_high p ∧ ¬ j_low p else if c = 4 then 65536 ≤ p ∧ p ≤ 1114111 else True
def j_gr (p : Int32) : Int32 := if (97 ≤ p ∧ p ≤ 122) ∨ (224 ≤ p ∧ p ≤ 254 ∧ p ≠ 247) then p - 32 else if p = 255 then 376 else p
def j_le (p : Int32) : Int32 := if (65 ≤ p ∧ p ≤ 90) ∨ (192 ≤ p ∧ p ≤ 222 ∧ p ≠ 215) then p + 32 else if p = 376 then 255 else p
/-- n steps, the k-th by F k -/
def itN {α : Type} (F : Nat → α → α) : Nat → α → α
  | 0, x => x
  | k + 1, x => F k (itN F k x)
/-- a row: what its array holds, how many of it count -/
abbrev Rw : Type := (Nat → Int32) × Nat
def r_add (n : Nat) (x : Int32) (X : Rw) : Rw := if X.2 < n then (upd X.1 X.2 x, X.2 + 1) else X
def r_nil (X : Rw) : Rw := (X.1, 0)
def r_all (n : Nat) (g : Nat → Int32) (m : Nat) (X : Rw) : Rw := itN (fun k X => r_add n (g k) X) m X
def r_uni (n : Nat) (p : Int32) (X : Rw) : Rw := if p < 65536 then r_add n p X else r_add n (56320 + ((p - 65536) - (p - 65536) / 1024 * 1024)) (r_add n (55296 + (p - 65536) / 1024) X)
def r_pt1 (n : Nat) (g : Nat → Int32) (len : Nat) (m : Int32) (k : Nat) (X : Rw) : Rw := if j_ins g len m (nI k + 1) then r_add n (j_pp g len (nI k)) X else if j_ins g len m (nI k) then X else r_add n (g k) X
def r_pts (n : Nat) (g : Nat → Int32) (len m : Nat) (X : Rw) : Rw := itN (r_pt1 n g len (nI m)) (min m len) X
def r_lp (n : Nat) (kd : Int32) (g : Nat → Int32) (len : Nat) (X : Rw) : Rw := if kd = 0 then r_pts n g len len (r_nil X) else r_all n g len (r_nil X)
def r_lu (n : Nat) (kd : Int32) (g : Nat → Int32) (len : Nat) (X : Rw) : Rw := if kd ≠ 1 then r_all n g len (r_nil X) else itN (fun k X => r_uni n (g k) X) len (r_nil X)
theorem r_add_le {n : Nat} {x : Int32} {X : Rw} (h : X.2 ≤ n) : (r_add n x X).2 ≤ n := by
  unfold r_add
  split
  · simp only; omega
  · exact h
theorem itN_le {n : Nat} {F : Nat → Rw → Rw} (hF : ∀ k X, X.2 ≤ n → (F k X).2 ≤ n) : ∀ (m : Nat) (X : Rw), X.2 ≤ n → (itN F m X).2 ≤ n
  | 0, _, h => h
  | m + 1, X, h => hF m _ (itN_le hF m X h)
theorem r_all_le {n : Nat} {g : Nat → Int32} {m : Nat} {X : Rw} (h : X.2 ≤ n) : (r_all n g m X).2 ≤ n := itN_le (fun _ _ h => r_add_le h) m X h
theorem r_uni_le {n : Nat} {p : Int32} {X : Rw} (h : X.2 ≤ n) : (r_uni n p X).2 ≤ n := by
  unfold r_uni
  split
  · exact r_add_le h
  · exact r_add_le (r_add_le h)
theorem r_pt1_le {n : Nat} {g : Nat → Int32} {len : Nat} {m : Int32} {k : Nat} {X : Rw} (h : X.2 ≤ n) : (r_pt1 n g len m k X).2 ≤ n := by
  unfold r_pt1
  split
  · exact r_add_le h
  · split
    · exact h
    · exact r_add_le h
theorem r_pts_le {n : Nat} {g : Nat → Int32} {len m : Nat} {X : Rw} (h : X.2 ≤ n) : (r_pts n g len m X).2 ≤ n := itN_le (fun _ _ h => r_pt1_le h) _ X h
theorem r_nil_le {n : Nat} {X : Rw} : (r_nil X).2 ≤ n := Nat.zero_le n
theorem r_lp_le {n : Nat} {kd : Int32} {g : Nat → Int32} {len : Nat} {X : Rw} : (r_lp n kd g len X).2 ≤ n := by
  unfold r_lp
  split
  · exact r_pts_le r_nil_le
  · exact r_all_le r_nil_le
theorem r_lu_le {n : Nat} {kd : Int32} {g : Nat → Int32} {len : Nat} {X : Rw} : (r_lu n kd g len X).2 ≤ n := by
  unfold r_lu
  split
  · exact r_all_le r_nil_le
  · exact itN_le (fun _ _ h => r_uni_le h) _ _ r_nil_le
/-- the first k from k0 on, of m, that has P; -1: none -/
def j_srch (P : Nat → Prop) [DecidablePred P] : Nat → Nat → Int32
  | 0, _ => -1
  | m + 1, k => if P k then nI k else j_srch P m (k + 1)
abbrev j_bad (form p : Int32) : Prop := if form = 3 then 255 < p else j_high p ∨ j_low p
def j_fu (X : Rw) (n : Nat) (form : Int32) : Int32 := j_srch (fun k => j_bad form (X.1 k)) (min X.2 n) 0
def r_tu1 (n : Nat) (form x : Int32) (Y : Rw) : Rw := r_add n (if form = 1 then x - x / 256 * 256 else x / 256) (r_add n (if form = 1 then x / 256 else x - x / 256 * 256) Y)
def r_tu (n' n : Nat) (form : Int32) (X Y : Rw) : Rw := itN (fun k Y => r_tu1 n form (X.1 k) Y) (min X.2 n') Y
def r_mb (n : Nat) (p : Int32) (Y : Rw) : Rw :=
  if p < 128 then r_add n p Y
  else if p < 2048 then r_add n (128 + (p - p / 64 * 64)) (r_add n (192 + p / 64) Y)
  else if p < 65536 then r_add n (128 + (p - p / 64 * 64)) (r_add n (128 + (p / 64 - p / 64 / 64 * 64)) (r_add n (224 + p / 4096) Y))
  else r_add n (128 + (p - p / 64 * 64)) (r_add n (128 + (p / 64 - p / 64 / 64 * 64)) (r_add n (128 + (p / 4096 - p / 4096 / 64 * 64)) (r_add n (240 + p / 262144) Y)))
def r_tp (n' n : Nat) (form : Int32) (X Y : Rw) : Rw := itN (fun k Y => if form = 3 then r_add n (X.1 k) Y else r_mb n (X.1 k) Y) (min X.2 n') Y
def j_r2 (n : Nat) (g : Nat → Int32) (len : Nat) (form : Int32) : Nat → Nat → Rw → Int32 × Rw
  | 0, _, X => (-1, X)
  | m + 1, k, X => if k < len ∧ X.2 ≤ 60 then (if k + 1 = len then (nI k, X) else j_r2 n g len form m (k + 2) (r_add n ((if form = 1 then g k else g (k + 1)) * 256 + (if form = 1 then g (k + 1) else g k)) X)) else (-1, X)
def j_pfl (g : Nat → Int32) (len : Nat) (lim : Int32) : Nat → Nat → Int32 → Option Int32
  | 0, _, p => some p
  | q + 1, m, p => if nI m < lim ∧ m < len then (if g m < 128 ∨ 191 < g m then none else j_pfl g len lim q (m + 1) (p * 64 + (g m - 128))) else some p
def j_pf (g : Nat → Int32) (len k : Nat) : Int32 :=
  if len ≤ k then -1 else if j_bc (g k) = 0 ∨ nI len - nI k < j_bc (g k) then -1 else
  match j_pfl g len (nI k + j_bc (g k)) (len - (k + 1)) (k + 1) (g k - j_fbo (j_bc (g k))) with
  | none => -1
  | some p => if j_told p (j_bc (g k)) then p else -1
def j_rm (n : Nat) (g : Nat → Int32) (len : Nat) : Nat → Nat → Int32 → Rw → Int32 × Rw
  | 0, _, _, X => (-1, X)
  | m + 1, k, nx, X => if k < len ∧ X.2 ≤ 60 then (if nx ≤ nI k then (if j_pf g len k = -1 then (nI k, X) else j_rm n g len m (k + 1) (nI k + j_bc (g k)) (r_uni n (j_pf g len k) X)) else j_rm n g len m (k + 1) nx X) else (-1, X)
def j_ru (n : Nat) (g : Nat → Int32) (len : Nat) (form : Int32) (X : Rw) : Int32 × Rw :=
  if form = 0 then j_rm n g len len 0 0 (r_nil X) else if form = 3 then (-1, r_all n g len (r_nil X)) else j_r2 n g len form len 0 (r_nil X)
abbrev j_stands (kd : Int32) (g : Nat → Int32) (len : Nat) (h : Nat → Int32) (pn : Nat) (k : Int32) : Prop :=
  ¬ j_beyond len k (nI pn) ∧ ¬ j_parts kd g len k ∧ ¬ j_parts kd g len (k + nI pn) ∧ ∀ m, m < pn → g (k.toNatClampNeg + m) = h m
def j_cmp (f g : Nat → Int32) : Nat → Nat → Option Int32
  | 0, _ => none
  | m + 1, k => if f k = g k then j_cmp f g m (k + 1) else some (if f k < g k then -1 else 1)
def j_ord (X : Rw) (n : Nat) (Y : Rw) (n' : Nat) : Int32 := match j_cmp X.1 Y.1 (min (min X.2 n) (min Y.2 n')) 0 with
  | some r => r
  | none => if X.2 = Y.2 then 0 else if X.2 < Y.2 then -1 else 1
abbrev j_same (g : Nat → Int32) (n : Nat) (h : Nat → Int32) (n' : Nat) : Prop := n = n' ∧ ∀ k, k < n → g k = h k
end
