theorem wd_fresh {w : Wd} {q b : Nat} {x : va_E} (hq : w q = none) (hb : w b = some x) : b ≠ q := fun e => by rw [e, hq] at hb; cases hb
section WDS
variable {p : Program} {l : Launch} {e : Env} {R : Room} {s : State} {m : MethodId} {args : Array Value} {below : List Frame} {meth : Method} {c : Code} {H : Heap} {locs : List Loc} {cells slots : Nat} {Q : State → Prop}
variable {cc : ByteArray} {pc : Nat} {ls : Array Slot} {rest : List Value} {D : va_G} {cl : List vw_C} {A : Nat → Prop} {a : Nat} {tys : List (ClassId × FieldType)} {w : Wd} {H0 : Heap}
theorem wd_clonei (hexec : p.tables.exec = Jvm.exec) (hb : c.code = cc) (hml : c.maxLocals = ls.size) {own : String} {index : Nat} (hown : s.vm.findClass own = some m.cls)
    (hlink : (Cond.methodLink own index ⟨"[I", "clone", "()Ljava/lang/Object;"⟩).before args s = true) (hsame : (Cond.sameMethod "[I" "java/lang/Object" "clone" "()Ljava/lang/Object;").before args s = true)
    (hnat : (Cond.native ⟨"java/lang/Object", "clone", "()Ljava/lang/Object;"⟩).before args s = true) (hinst : (Cond.instanceMethod ⟨"java/lang/Object", "clone", "()Ljava/lang/Object;"⟩).before args s = true)
    (hsel : (Cond.selects "[I" ⟨"[I", "clone", "()Ljava/lang/Object;"⟩ ⟨"java/lang/Object", "clone", "()Ljava/lang/Object;"⟩).before args s = true) (hcl : va_Nw (.castable "[I" "java/lang/Cloneable") s)
    (hK : va_K D cl tys s) (hW : wd_P D cl A w H) (hS : va_S A H0 H locs) (hA : ∀ q, H0.size ≤ q → A q) (t0 : Nat) {cI : ClassId} {n : Nat} {f : Nat → Int32} (ha : w a = some (.inl (cI, n, .inl f))) (ht : tys[t0]? = some (cI, .int))
    (hframes : 1 ≤ R.frames) (hlocals : (rest.map fun v => v.category).sum + 14 ≤ R.locals) (hcells : cells + 1 ≤ R.cells) (hslots : slots + n ≤ R.slots) (hdg : decode cc pc = .ok (.invokevirtual index, 3))
    (kk : ∀ (q : Nat) (H1 : Heap), w q = none → wd_P D cl A (wd_up w q (.inl (cI, n, .inl f))) H1 → va_S A H0 H1 locs →
      W p l e R s m args below meth c H1 locs (cells + 1) (slots + n) Q (F0 m (pc + 3) ls (.ref q :: rest))) : W p l e R s m args below meth c H locs cells slots Q (F0 m pc ls (.ref a :: rest)) := by
  obtain ⟨L, hL, hP, hD⟩ := hW
  obtain ⟨q0, hq⟩ := wd_in hL ha
  refine va_clone hexec hb hml hown hlink hsame hnat hinst hsel hcl hK hP hD hS hA q0 t0 hq ht (va_nm_int (hK.2 t0 _ ht).2) ?_ hframes hlocals hcells hslots hdg (fun q H1 hK1 hP1 hD1 hS1 => ?_)
  · intro i v hv
    rw [vp_cell_i] at hv
    by_cases hi : i < n
    · rw [arrV_read _ _ hi] at hv
      cases hv
      rfl
    · rw [Array.getElem?_eq_none (by rw [arrV_size]; omega)] at hv
      cases hv
  · obtain ⟨h1, h2⟩ := wd_push hL hP1 hD1
    exact kk q H1 h1 h2 hS1
theorem wd_castI (hexec : p.tables.exec = Jvm.exec) (hb : c.code = cc) {own : String} {index : Nat} (hown : s.vm.findClass own = some m.cls) (hlink : (Cond.classLink own index "[I").before args s = true) (hK : va_K D cl tys s) (hW : wd_P D cl A w H) (t0 : Nat) {cI : ClassId} {x : vp_A} (ha : w a = some (.inl (cI, x))) (ht : tys[t0]? = some (cI, .int)) (hdg : decode cc pc = .ok (.checkcast index, 3))
    (k : W p l e R s m args below meth c H locs cells slots Q (F0 m (pc + 3) ls (.ref a :: rest))) : W p l e R s m args below meth c H locs cells slots Q (F0 m pc ls (.ref a :: rest)) := by
  obtain ⟨L, hL, hP, hD⟩ := hW
  obtain ⟨q0, hq⟩ := wd_in hL ha
  exact va_castA hexec hb hown hlink hP q0 hq (va_nm_int (hK.2 t0 _ ht).2) hdg k
end WDS
/-! The object of the class -/
abbrev e_obj (tA kA : Nat) (kc : Int32) (dr wk sw : Nat) (cd pl : Int32) : va_E := .inr (2, [.ref tA, .ref kA, .int kc, .ref dr, .ref wk, .ref sw, .int cd, .int pl])
abbrev e_refs (cT : ClassId) (n : Nat) (f : Nat → Option Nat) : va_E := .inl (cT, n, .inr (.inr (.inr (.inr f))))
theorem wd_up_up (w : Wd) (a : Nat) (e e' : va_E) : wd_up (wd_up w a e) a e' = wd_up w a e' := by
  funext b
  by_cases h : b = a <;> simp [wd_up, h]
theorem wd_up_3 (w : Wd) {a b : Nat} (e1 e2 e3 : va_E) (h : a ≠ b) : wd_up (wd_up (wd_up w a e1) b e2) a e3 = wd_up (wd_up w b e2) a e3 := by
  funext q
  by_cases h1 : q = a
  · simp [wd_up, h1]
  · simp [wd_up, h1]
