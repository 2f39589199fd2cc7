section WDR
variable {p : Program} {l : Launch} {e : Env} {R : Room} {s : State} {m : MethodId} {args : Array Value} {below : List Frame} {meth : Method} {c : Code} {H : Heap} {locs : List Loc} {cells slots : Nat} {Q : State → Prop}
variable {cc : ByteArray} {pc : Nat} {ls : Array Slot} {rest : List Value} {D : va_G} {cl : List vw_C} {A : Nat → Prop} {a : Nat} {tys : List (ClassId × FieldType)} {w : Wd} {H0 : Heap}
theorem wd_get (hexec : p.tables.exec = Jvm.exec) (hb : c.code = cc) {own ref C : String} {T : u_T} {N ci index : Nat} {Ts : List Cond} (hts : ∀ w ∈ Ts, w.before args s = true) (hin : ∀ w ∈ u_ws C T N, w ∈ Ts) (hown : s.vm.findClass own = some m.cls) (hK : va_K D cl tys s) (hW : wd_P D cl A w H) {fs : List Value} (he : w a = some (.inr (ci, fs))) (hc : cl[ci]? = some (C, T, N)) (k : Nat) (hk : k < N) (hlink : (Cond.fieldLink own index ref (T k).2.1 (T k).2.2.1).before args s = true) (hsame : ∀ x, s.fieldFound? (T k).1 (T k).2.1 (T k).2.2.1 = some x → s.fieldFound? ref (T k).2.1 (T k).2.2.1 = some x) {v : Value} (hv : fs[k]? = some v) (hdg : decode cc pc = .ok (.getfield index, 3))
    (kk : W p l e R s m args below meth c H locs cells slots Q (F0 m (pc + 3) ls (v :: rest))) : W p l e R s m args below meth c H locs cells slots Q (F0 m pc ls (.ref a :: rest)) := by
  obtain ⟨L, hL, hP, hD⟩ := hW
  obtain ⟨q0, hq⟩ := wd_in hL he
  exact va_get hexec hb hts hin hown hK hP q0 hq hc k hk hlink hsame hv hdg kk
theorem wd_put (hexec : p.tables.exec = Jvm.exec) (hb : c.code = cc) {own ref C : String} {T : u_T} {N ci index : Nat} {Ts : List Cond} (hts : ∀ w ∈ Ts, w.before args s = true) (hin : ∀ w ∈ u_ws C T N, w ∈ Ts) (ty0 : Nat → FieldType) (hty : ∀ k, k < N → parseFieldDescriptor (T k).2.2.1 = some (ty0 k)) (hnm : ∀ a, a < N → ∀ b, b < N → a ≠ b → (T a).2.1 ≠ (T b).2.1) (hown : s.vm.findClass own = some m.cls) (hK : va_K D cl tys s) (hW : wd_P D cl A w H) (hS0 : va_S A H0 H locs) {fs : List Value} (he : w a = some (.inr (ci, fs))) (hc : cl[ci]? = some (C, T, N)) (k : Nat) (hk : k < N) (hlink : (Cond.fieldLink own index ref (T k).2.1 (T k).2.2.1).before args s = true) (hsame : ∀ x, s.fieldFound? (T k).1 (T k).2.1 (T k).2.2.1 = some x → s.fieldFound? ref (T k).2.1 (T k).2.2.1 = some x) (hfin : (T k).2.2.2 = false) {ty : FieldType} {v : Value} (hd : parseFieldDescriptor (T k).2.2.1 = some ty) (hn : narrow ty v = v) (hfit : fits ty v = true) (hl : k < fs.length)
    (hdg : decode cc pc = .ok (.putfield index, 3)) (kk : ∀ (H1 : Heap) (locs1 : List Loc), wd_P D cl A (wd_up w a (.inr (ci, fs.set k v))) H1 → va_S A H0 H1 locs1 → W p l e R s m args below meth c H1 locs1 cells slots Q (F0 m (pc + 3) ls rest)) : W p l e R s m args below meth c H locs cells slots Q (F0 m pc ls (v :: .ref a :: rest)) := by
  obtain ⟨L, hL, hP, hD⟩ := hW
  obtain ⟨q0, hq⟩ := wd_in hL he
  exact va_put hexec hb hts hin ty0 hty hnm hown hK hP hD hS0 q0 hq hc k hk hlink hsame hfin hd hn hfit hl hdg (fun H1 locs1 hP1 hD1 hS1 => kk H1 locs1 (wd_set hL hD he hq hP1 hD1) hS1)
theorem wd_putF (hexec : p.tables.exec = Jvm.exec) (hb : c.code = cc) {own ref C : String} {T : u_T} {N ci index : Nat} {Ts : List Cond} (hts : ∀ w ∈ Ts, w.before args s = true) (hin : ∀ w ∈ u_ws C T N, w ∈ Ts) (ty0 : Nat → FieldType) (hty : ∀ k, k < N → parseFieldDescriptor (T k).2.2.1 = some (ty0 k)) (hnm : ∀ a, a < N → ∀ b, b < N → a ≠ b → (T a).2.1 ≠ (T b).2.1) (hown : s.vm.findClass own = some m.cls) (hK : va_K D cl tys s) (hW : wd_P D cl A w H) (hS0 : va_S A H0 H locs) {fs : List Value} (he : w a = some (.inr (ci, fs))) (hc : cl[ci]? = some (C, T, N)) (k : Nat) (hk : k < N) (hlink : (Cond.fieldLink own index ref (T k).2.1 (T k).2.2.1).before args s = true) (hsame : ∀ x, s.fieldFound? (T k).1 (T k).2.1 (T k).2.2.1 = some x → s.fieldFound? ref (T k).2.1 (T k).2.2.1 = some x) (hfin : (T k).2.2.2 = true) (hin2 : meth.name = "<init>") (hdecl : (T k).1 = own) {ty : FieldType} {v : Value} (hd : parseFieldDescriptor (T k).2.2.1 = some ty) (hn : narrow ty v = v) (hfit : fits ty v = true) (hl : k < fs.length)
    (hdg : decode cc pc = .ok (.putfield index, 3)) (kk : ∀ (H1 : Heap) (locs1 : List Loc), wd_P D cl A (wd_up w a (.inr (ci, fs.set k v))) H1 → va_S A H0 H1 locs1 → W p l e R s m args below meth c H1 locs1 cells slots Q (F0 m (pc + 3) ls rest)) : W p l e R s m args below meth c H locs cells slots Q (F0 m pc ls (v :: .ref a :: rest)) := by
  obtain ⟨L, hL, hP, hD⟩ := hW
  obtain ⟨q0, hq⟩ := wd_in hL he
  exact va_putF hexec hb hts hin ty0 hty hnm hown hK hP hD hS0 q0 hq hc k hk hlink hsame hfin hin2 hdecl hd hn hfit hl hdg (fun H1 locs1 hP1 hD1 hS1 => kk H1 locs1 (wd_set hL hD he hq hP1 hD1) hS1)
theorem wd_iald (hexec : p.tables.exec = Jvm.exec) (hb : c.code = cc) (hK : va_K D cl tys s) (hW : wd_P D cl A w H) (t0 : Nat) {cA : ClassId} {n : Nat} {f : Nat → Int32} (ha : w a = some (.inl (cA, n, .inl f))) (ht : tys[t0]? = some (cA, .int)) {i : Int32} (hin : vp_in i n) (hdg : decode cc pc = .ok (.iaload, 1))
    (kk : W p l e R s m args below meth c H locs cells slots Q (F0 m (pc + 1) ls (.int (f i.toNatClampNeg) :: rest))) : W p l e R s m args below meth c H locs cells slots Q (F0 m pc ls (.int i :: .ref a :: rest)) := by
  obtain ⟨L, hL, hP, hD⟩ := hW
  obtain ⟨q0, hq⟩ := wd_in hL ha
  exact va_iald hexec hb hK hP q0 t0 hq ht hin hdg kk
theorem wd_iast (hexec : p.tables.exec = Jvm.exec) (hb : c.code = cc) (hK : va_K D cl tys s) (hW : wd_P D cl A w H) (hS : va_S A H0 H locs) (t0 : Nat) {cA : ClassId} {n : Nat} {f : Nat → Int32} (ha : w a = some (.inl (cA, n, .inl f))) (ht : tys[t0]? = some (cA, .int)) {i : Int32} {x : Int32} (hin : vp_in i n) (hdg : decode cc pc = .ok (.iastore, 1))
    (kk : ∀ (H1 : Heap) (locs1 : List Loc), wd_P D cl A (wd_up w a (.inl (cA, n, .inl (upd f i.toNatClampNeg x)))) H1 → va_S A H0 H1 locs1 → W p l e R s m args below meth c H1 locs1 cells slots Q (F0 m (pc + 1) ls rest)) : W p l e R s m args below meth c H locs cells slots Q (F0 m pc ls (.int x :: .int i :: .ref a :: rest)) := by
  obtain ⟨L, hL, hP, hD⟩ := hW
  obtain ⟨q0, hq⟩ := wd_in hL ha
  exact va_iast hexec hb hK hP hD hS q0 t0 hq ht hin hdg (fun H1 locs1 hP1 hD1 hS1 => kk H1 locs1 (wd_set hL hD ha hq hP1 hD1) hS1)
theorem wd_alen (hexec : p.tables.exec = Jvm.exec) (hb : c.code = cc) (hK : va_K D cl tys s) (hW : wd_P D cl A w H) (t0 : Nat) {cA : ClassId} {x : vp_A} (ha : w a = some (.inl (cA, x))) {ty : FieldType} (ht : tys[t0]? = some (cA, ty)) (hdg : decode cc pc = .ok (.arraylength, 1))
    (kk : W p l e R s m args below meth c H locs cells slots Q (F0 m (pc + 1) ls (.int (nI x.1) :: rest))) : W p l e R s m args below meth c H locs cells slots Q (F0 m pc ls (.ref a :: rest)) := by
  obtain ⟨L, hL, hP, hD⟩ := hW
  obtain ⟨q0, hq⟩ := wd_in hL ha
  exact va_alen hexec hb hK hP q0 t0 hq ht rfl hdg kk
theorem wd_aldq (hexec : p.tables.exec = Jvm.exec) (hb : c.code = cc) (hK : va_K D cl tys s) (hW : wd_P D cl A w H) (t0 : Nat) {cA : ClassId} {C : String} {n : Nat} {f : Nat → Option Nat} (ha : w a = some (.inl (cA, n, .inr (.inr (.inr (.inr f)))))) (ht : tys[t0]? = some (cA, .object C)) {i : Int32} (hin : vp_in i n) (hdg : decode cc pc = .ok (.aaload, 1))
    (kk : W p l e R s m args below meth c H locs cells slots Q (F0 m (pc + 1) ls (va_rf (f i.toNatClampNeg) :: rest))) : W p l e R s m args below meth c H locs cells slots Q (F0 m pc ls (.int i :: .ref a :: rest)) := by
  obtain ⟨L, hL, hP, hD⟩ := hW
  obtain ⟨q0, hq⟩ := wd_in hL ha
  exact va_aldq hexec hb hK hP q0 t0 hq ht hin hdg kk
theorem wd_astq (hexec : p.tables.exec = Jvm.exec) (hb : c.code = cc) (hK : va_K D cl tys s) (hW : wd_P D cl A w H) (hS : va_S A H0 H locs) (t0 ci : Nat) {cA : ClassId} {r : vw_C} {n v : Nat} {vs : List Value} {f : Nat → Option Nat} (ha : w a = some (.inl (cA, n, .inr (.inr (.inr (.inr f)))))) (ht : tys[t0]? = some (cA, .object r.1)) (hv : w v = some (.inr (ci, vs))) (hc : cl[ci]? = some r) {i : Int32} (hin : vp_in i n) (hdg : decode cc pc = .ok (.aastore, 1))
    (kk : ∀ (H1 : Heap) (locs1 : List Loc), wd_P D cl A (wd_up w a (.inl (cA, n, .inr (.inr (.inr (.inr (va_up f i.toNatClampNeg (some v)))))))) H1 → va_S A H0 H1 locs1 → W p l e R s m args below meth c H1 locs1 cells slots Q (F0 m (pc + 1) ls rest)) : W p l e R s m args below meth c H locs cells slots Q (F0 m pc ls (.ref v :: .int i :: .ref a :: rest)) := by
  obtain ⟨L, hL, hP, hD⟩ := hW
  obtain ⟨q0, hq⟩ := wd_in hL ha
  obtain ⟨qk, hqk⟩ := wd_in hL hv
  exact va_astq hexec hb hK hP hD hS q0 t0 qk ci hq ht hqk hc hin hdg (fun H1 locs1 hP1 hD1 hS1 => kk H1 locs1 (wd_set hL hD ha hq hP1 hD1) hS1)
theorem wd_astqN (hexec : p.tables.exec = Jvm.exec) (hb : c.code = cc) (hK : va_K D cl tys s) (hW : wd_P D cl A w H) (hS : va_S A H0 H locs) (t0 : Nat) {cA : ClassId} {C : String} {n : Nat} {f : Nat → Option Nat} (ha : w a = some (.inl (cA, n, .inr (.inr (.inr (.inr f)))))) (ht : tys[t0]? = some (cA, .object C)) {i : Int32} (hin : vp_in i n) (hdg : decode cc pc = .ok (.aastore, 1))
    (kk : ∀ (H1 : Heap) (locs1 : List Loc), wd_P D cl A (wd_up w a (.inl (cA, n, .inr (.inr (.inr (.inr (va_up f i.toNatClampNeg none))))))) H1 → va_S A H0 H1 locs1 → W p l e R s m args below meth c H1 locs1 cells slots Q (F0 m (pc + 1) ls rest)) : W p l e R s m args below meth c H locs cells slots Q (F0 m pc ls (.null :: .int i :: .ref a :: rest)) := by
  obtain ⟨L, hL, hP, hD⟩ := hW
  obtain ⟨q0, hq⟩ := wd_in hL ha
  exact va_astqN hexec hb hK hP hD hS q0 t0 hq ht hin hdg (fun H1 locs1 hP1 hD1 hS1 => kk H1 locs1 (wd_set hL hD ha hq hP1 hD1) hS1)
theorem wd_copyi (hexec : p.tables.exec = Jvm.exec) (hb : c.code = cc) (hml : c.maxLocals = ls.size) {own : String} {index : Nat} (hown : s.vm.findClass own = some m.cls) (hlink : (Cond.methodLink own index arraycopyName).before args s = true) (hnat : (Cond.native arraycopyName).before args s = true) (hstat : (Cond.static arraycopyName).before args s = true) (hini : (Cond.initialized "java/lang/System").before args s = true)
    (hK : va_K D cl tys s) (hW : wd_P D cl A w H) (hS : va_S A H0 H locs) (t0 t1 : Nat) {a0 : Nat} {c0 c1 : ClassId} {n0 n1 : Nat} {f g : Nat → Int32} (ha0 : w a0 = some (.inl (c0, n0, .inl f))) (ha1 : w a = some (.inl (c1, n1, .inl g))) (ht0 : tys[t0]? = some (c0, .int)) (ht1 : tys[t1]? = some (c1, .int))
    {sp dp n : Int32} (h1 : ¬ sp < 0) (h2 : ¬ dp < 0) (h3 : ¬ n < 0) (h4 : sp.toNatClampNeg + n.toNatClampNeg ≤ n0) (h5 : dp.toNatClampNeg + n.toNatClampNeg ≤ n1)
    (hframes : 1 ≤ R.frames) (hlocals : (rest.map fun v => v.category).sum + (nativeFrameWords "java/lang/System" "arraycopy" 5 + 11) ≤ R.locals) (hdg : decode cc pc = .ok (.invokestatic index, 3))
    (kk : ∀ (H1 : Heap) (locs1 : List Loc), wd_P D cl A (wd_up w a (.inl (c1, n1, .inl (va_cpy f g sp.toNatClampNeg dp.toNatClampNeg n.toNatClampNeg)))) H1 → va_S A H0 H1 locs1 → W p l e R s m args below meth c H1 locs1 cells slots Q (F0 m (pc + 3) ls rest)) : W p l e R s m args below meth c H locs cells slots Q (F0 m pc ls (.int n :: .int dp :: .ref a :: .int sp :: .ref a0 :: rest)) := by
  obtain ⟨L, hL, hP, hD⟩ := hW
  obtain ⟨q0, hq0⟩ := wd_in hL ha0
  obtain ⟨q1, hq1⟩ := wd_in hL ha1
  exact va_copyi hexec hb hml hown hlink hnat hstat hini hK hP hD hS q0 q1 t0 t1 hq0 hq1 ht0 ht1 rfl h1 h2 h3 h4 h5 (fun _ _ => rfl) hframes hlocals hdg (fun H1 locs1 hP1 hD1 hS1 => kk H1 locs1 (wd_set hL hD ha1 hq1 hP1 hD1) hS1)
theorem wd_new (hexec : p.tables.exec = Jvm.exec) (hb : c.code = cc) {own C : String} {T : u_T} {N ci index : Nat} {Ts : List Cond} (hts : ∀ w ∈ Ts, w.before args s = true) (hin : ∀ w ∈ u_ws C T N, w ∈ Ts) (ty : Nat → FieldType) (hty : ∀ k, k < N → parseFieldDescriptor (T k).2.2.1 = some (ty k)) (hown : s.vm.findClass own = some m.cls) (hcl : (Cond.classLink own index C).before args s = true) (hinst : (Cond.instantiable C N).before args s = true) (hini : (Cond.initialized C).before args s = true)
    (hK : va_K D cl tys s) (hW : wd_P D cl A w H) (hS : va_S A H0 H locs) (hA : ∀ q, H0.size ≤ q → A q) (hc : cl[ci]? = some (C, T, N)) {fs : List Value} (hfs : ∀ j, j < N → defaultValue (ty j) = vp_V fs j) (hcells : cells + 1 ≤ R.cells) (hslots : slots + N ≤ R.slots) (hdg : decode cc pc = .ok (.new index, 3))
    (kk : ∀ (q : Nat) (H1 : Heap), w q = none → wd_P D cl A (wd_up w q (.inr (ci, fs))) H1 → va_S A H0 H1 locs →
      W p l e R s m args below meth c H1 locs (cells + 1) (slots + N) Q (F0 m (pc + 3) ls (.ref q :: rest))) : W p l e R s m args below meth c H locs cells slots Q (F0 m pc ls rest) := by
  obtain ⟨L, hL, hP, hD⟩ := hW
  exact va_new hexec hb hts hin ty hty hown hcl hinst hini hK hP hD hS hA hc hfs hcells hslots hdg (fun q H1 hP1 hD1 hS1 => by
    obtain ⟨h1, h2⟩ := wd_push hL hP1 hD1
    exact kk q H1 h1 h2 hS1)
/-- a new array of ints: its class is the one that the tables know -/
theorem wd_newi (hexec : p.tables.exec = Jvm.exec) (hb : c.code = cc) (harr : (Cond.arrayClass .int).before args s = true) (hK : va_K D cl tys s) (t0 : Nat) {cI : ClassId} (ht : tys[t0]? = some (cI, .int)) (hW : wd_P D cl A w H) (hS : va_S A H0 H locs) (hA : ∀ q, H0.size ≤ q → A q)
    {n : Int32} {N' : Nat} (hn : ¬ n < 0) (hN : n.toNatClampNeg = N') (hbytes : N' * 4 ≤ 536870912) (hcells : cells + 1 ≤ R.cells) (hslots : slots + N' ≤ R.slots) (hdg : decode cc pc = .ok (.newarray .int, 2))
    (kk : ∀ (q : Nat) (H1 : Heap), w q = none → wd_P D cl A (wd_up w q (.inl (cI, N', .inl (fun _ => 0)))) H1 → va_S A H0 H1 locs →
      W p l e R s m args below meth c H1 locs (cells + 1) (slots + N') Q (F0 m (pc + 2) ls (.ref q :: rest))) : W p l e R s m args below meth c H locs cells slots Q (F0 m pc ls (.int n :: rest)) := by
  obtain ⟨L, hL, hP, hD⟩ := hW
  refine va_newa (atype := .int) (ty := .int) (a0 := (N', .inl (fun _ => 0))) hexec hb harr rfl hK hP hD hS hA (fun cA => rfl) hn hN hbytes hcells hslots hdg (fun q cA H1 hK1 hP1 hD1 hS1 => ?_)
  have e1 := va_nm_int (hK.2 t0 _ ht).2
  have e2 := va_nm_int (hK1.2 tys.length (cA, .int) (by simp)).2
  have e3 : cA = cI := Option.some.inj (e2.symm.trans e1)
  subst e3
  obtain ⟨h1, h2⟩ := wd_push hL hP1 hD1
  exact kk q H1 h1 h2 hS1
theorem wd_newq (hexec : p.tables.exec = Jvm.exec) (hb : c.code = cc) {own C : String} {index : Nat} (hown : s.vm.findClass own = some m.cls) (hclink : (Cond.classLink own index C).before args s = true) (hover : va_AO C s) (hK : va_K D cl tys s) (t0 : Nat) {cT : ClassId} (ht : tys[t0]? = some (cT, .object C)) (hW : wd_P D cl A w H) (hS : va_S A H0 H locs) (hA : ∀ q, H0.size ≤ q → A q)
    {n : Int32} {N' : Nat} (hn : ¬ n < 0) (hN : n.toNatClampNeg = N') (hbytes : N' * 4 ≤ 536870912) (hcells : cells + 1 ≤ R.cells) (hslots : slots + N' ≤ R.slots) (hdg : decode cc pc = .ok (.anewarray index, 3))
    (kk : ∀ (q : Nat) (H1 : Heap), w q = none → wd_P D cl A (wd_up w q (.inl (cT, N', .inr (.inr (.inr (.inr (fun _ => none))))))) H1 → va_S A H0 H1 locs →
      W p l e R s m args below meth c H1 locs (cells + 1) (slots + N') Q (F0 m (pc + 3) ls (.ref q :: rest))) : W p l e R s m args below meth c H locs cells slots Q (F0 m pc ls (.int n :: rest)) := by
  obtain ⟨L, hL, hP, hD⟩ := hW
  refine va_newq hexec hb hown hclink hover hK hP hD hS hA hn hN hbytes hcells hslots hdg (fun q cA H1 hK1 hP1 hD1 hS1 => ?_)
  obtain ⟨_, _, _, _, _, e1⟩ := (hK.2 t0 _ ht).2
  obtain ⟨_, _, _, _, _, e2⟩ := (hK1.2 tys.length (cA, .object C) (by simp)).2
  have e3 : cA = cT := Option.some.inj (e2.symm.trans e1)
  subst e3
  obtain ⟨h1, h2⟩ := wd_push hL hP1 hD1
  exact kk q H1 h1 h2 hS1
theorem wd_callVi {post : Int32 → Wd → Prop} {own : String} {C : String} {index : Nat} {y : MethodName} {bytes : ByteArray} {maxL nL mc ms n : Nat} {ret : Option FieldType} {ws Ts : List Cond} {rm : Room} {As st : List Value} {b : Nat} {KK : State → Prop} {c2 s2 : Nat} (S : CallFix p m c cc nL s args Ts own)
    (hM : Met l y ws rm (wd_C D cl KK (.ref b :: As) w H.size) (va_Qi post (wd_B D cl (wd_A w H.size)) (wd_A w H.size)) mc ms (wd_A w H.size))
    (cw : CallW R s args own C index y bytes maxL ret ws rm mc ms n) (hk : wd_Kok KK) (hK : KK s) (hW : wd_P D cl A w H) (hrecv : ∃ cellB : Cell, H[b]? = some cellB ∧ cellB.vm.isStatics = false ∧ s.vm.findClass C = some cellB.cls) (hS : va_S A H0 H locs) (hA : ∀ q, H0.size ≤ q → A q)
    (hn : As.length = n) (hsize : ls.size = nL) (hst : st = As.reverse ++ .ref b :: rest) (hrest : (rest.map fun v => v.category).sum ≤ 8) (hdg : decode cc pc = .ok (.invokevirtual index, 3)) (hf : cells + mc ≤ R.cells ∧ slots + ms ≤ R.slots) (hc2 : cells + mc = c2) (hs2 : slots + ms = s2)
    (kk : ∀ (r : Int32) (w' : Wd) (H1 : Heap) (locs1 : List Loc), post r w' → wd_P D cl A w' H1 → H.size ≤ H1.size → va_S A H0 H1 locs1 → W p l e R s m args below meth c H1 locs1 c2 s2 Q (F0 m (pc + 3) ls (.int r :: rest))) : W p l e R s m args below meth c H locs cells slots Q (F0 m pc ls st) := by
  subst hst hc2 hs2
  have hAA := hW.free hS hA
  refine va_calli (va_runV (As := As) (rest := rest) S hM cw ⟨fun a U g mk q => by obtain ⟨q0, q1, q2, q3⟩ := q; exact ⟨q0, q1, q2, hk.2 _ _ _ _ q3⟩, hrecv, fun U hU hWm => ⟨rfl, by rw [hU], by rw [hU]; exact hW.weaken (fun _ _ => trivial), hk.1 _ _ hK hWm⟩⟩ rfl hn hsize rfl (lv_room hrest) hdg hf) hS (fun q _ h => hAA q h) hAA (fun r w' t H1 locs1 ht hvm hw hB hz1 hk1 hS1 => ?_)
  exact kk r w' H1 locs1 hw (wd_P.weaken (by rw [← ht]; exact hB) hAA) hz1 hS1
theorem wd_callVv {post : Wd → Prop} {own : String} {C : String} {index : Nat} {y : MethodName} {bytes : ByteArray} {maxL nL mc ms n : Nat} {ret : Option FieldType} {ws Ts : List Cond} {rm : Room} {As st : List Value} {b : Nat} {KK : State → Prop} {c2 s2 : Nat} (S : CallFix p m c cc nL s args Ts own)
    (hM : Met l y ws rm (wd_C D cl KK (.ref b :: As) w H.size) (va_Qv post (wd_B D cl (wd_A w H.size)) (wd_A w H.size)) mc ms (wd_A w H.size))
    (cw : CallW R s args own C index y bytes maxL ret ws rm mc ms n) (hk : wd_Kok KK) (hK : KK s) (hW : wd_P D cl A w H) (hrecv : ∃ cellB : Cell, H[b]? = some cellB ∧ cellB.vm.isStatics = false ∧ s.vm.findClass C = some cellB.cls) (hS : va_S A H0 H locs) (hA : ∀ q, H0.size ≤ q → A q)
    (hn : As.length = n) (hsize : ls.size = nL) (hst : st = As.reverse ++ .ref b :: rest) (hrest : (rest.map fun v => v.category).sum ≤ 8) (hdg : decode cc pc = .ok (.invokevirtual index, 3)) (hf : cells + mc ≤ R.cells ∧ slots + ms ≤ R.slots) (hc2 : cells + mc = c2) (hs2 : slots + ms = s2)
    (kk : ∀ (w' : Wd) (H1 : Heap) (locs1 : List Loc), post w' → wd_P D cl A w' H1 → H.size ≤ H1.size → va_S A H0 H1 locs1 → W p l e R s m args below meth c H1 locs1 c2 s2 Q (F0 m (pc + 3) ls rest)) : W p l e R s m args below meth c H locs cells slots Q (F0 m pc ls st) := by
  subst hst hc2 hs2
  have hAA := hW.free hS hA
  refine va_callv (va_runV (As := As) (rest := rest) S hM cw ⟨fun a U g mk q => by obtain ⟨q0, q1, q2, q3⟩ := q; exact ⟨q0, q1, q2, hk.2 _ _ _ _ q3⟩, hrecv, fun U hU hWm => ⟨rfl, by rw [hU], by rw [hU]; exact hW.weaken (fun _ _ => trivial), hk.1 _ _ hK hWm⟩⟩ rfl hn hsize rfl (lv_room hrest) hdg hf) hS (fun q _ h => hAA q h) hAA (fun w' t H1 locs1 ht hvm hw hB hz1 hk1 hS1 => ?_)
  exact kk w' H1 locs1 hw (wd_P.weaken (by rw [← ht]; exact hB) hAA) hz1 hS1
theorem wd_callSi {post : Int32 → Wd → Prop} {own : String} {index : Nat} {y : MethodName} {bytes : ByteArray} {maxL nL mc ms n : Nat} {ret : Option FieldType} {ws Ts : List Cond} {rm : Room} {As st : List Value} {KK : State → Prop} {c2 s2 : Nat} (S : CallFix p m c cc nL s args Ts own)
    (hM : Met l y ws rm (wd_C D cl KK As w H.size) (va_Qi post (wd_B D cl (wd_A w H.size)) (wd_A w H.size)) mc ms (wd_A w H.size))
    (cw : CallB R s args own index y bytes maxL ret ws rm mc ms n ∧ (Cond.static y).before args s = true) (hk : wd_Kok KK) (hK : KK s) (hW : wd_P D cl A w H) (hS : va_S A H0 H locs) (hA : ∀ q, H0.size ≤ q → A q)
    (hn : As.length = n) (hsize : ls.size = nL) (hst : st = As.reverse ++ rest) (hrest : (rest.map fun v => v.category).sum ≤ 8) (hdg : decode cc pc = .ok (.invokestatic index, 3)) (hf : cells + mc ≤ R.cells ∧ slots + ms ≤ R.slots) (hc2 : cells + mc = c2) (hs2 : slots + ms = s2)
    (kk : ∀ (r : Int32) (w' : Wd) (H1 : Heap) (locs1 : List Loc), post r w' → wd_P D cl A w' H1 → H.size ≤ H1.size → va_S A H0 H1 locs1 → W p l e R s m args below meth c H1 locs1 c2 s2 Q (F0 m (pc + 3) ls (.int r :: rest))) : W p l e R s m args below meth c H locs cells slots Q (F0 m pc ls st) := by
  subst hst hc2 hs2
  have hAA := hW.free hS hA
  refine va_calli (va_runS (As := As) (rest := rest) S hM cw ⟨fun a U g mk q => by obtain ⟨q0, q1, q2, q3⟩ := q; exact ⟨q0, q1, q2, hk.2 _ _ _ _ q3⟩, fun U hU hWm => ⟨rfl, by rw [hU], by rw [hU]; exact hW.weaken (fun _ _ => trivial), hk.1 _ _ hK hWm⟩⟩ rfl hn hsize rfl (lv_room hrest) hdg hf) hS (fun q _ h => hAA q h) hAA (fun r w' t H1 locs1 ht hvm hw hB hz1 hk1 hS1 => ?_)
  exact kk r w' H1 locs1 hw (wd_P.weaken (by rw [← ht]; exact hB) hAA) hz1 hS1
theorem wd_callSv {post : Wd → Prop} {own : String} {index : Nat} {y : MethodName} {bytes : ByteArray} {maxL nL mc ms n : Nat} {ret : Option FieldType} {ws Ts : List Cond} {rm : Room} {As st : List Value} {KK : State → Prop} {c2 s2 : Nat} (S : CallFix p m c cc nL s args Ts own)
    (hM : Met l y ws rm (wd_C D cl KK As w H.size) (va_Qv post (wd_B D cl (wd_A w H.size)) (wd_A w H.size)) mc ms (wd_A w H.size))
    (cw : CallB R s args own index y bytes maxL ret ws rm mc ms n ∧ (Cond.static y).before args s = true) (hk : wd_Kok KK) (hK : KK s) (hW : wd_P D cl A w H) (hS : va_S A H0 H locs) (hA : ∀ q, H0.size ≤ q → A q)
    (hn : As.length = n) (hsize : ls.size = nL) (hst : st = As.reverse ++ rest) (hrest : (rest.map fun v => v.category).sum ≤ 8) (hdg : decode cc pc = .ok (.invokestatic index, 3)) (hf : cells + mc ≤ R.cells ∧ slots + ms ≤ R.slots) (hc2 : cells + mc = c2) (hs2 : slots + ms = s2)
    (kk : ∀ (w' : Wd) (H1 : Heap) (locs1 : List Loc), post w' → wd_P D cl A w' H1 → H.size ≤ H1.size → va_S A H0 H1 locs1 → W p l e R s m args below meth c H1 locs1 c2 s2 Q (F0 m (pc + 3) ls rest)) : W p l e R s m args below meth c H locs cells slots Q (F0 m pc ls st) := by
  subst hst hc2 hs2
  have hAA := hW.free hS hA
  refine va_callv (va_runS (As := As) (rest := rest) S hM cw ⟨fun a U g mk q => by obtain ⟨q0, q1, q2, q3⟩ := q; exact ⟨q0, q1, q2, hk.2 _ _ _ _ q3⟩, fun U hU hWm => ⟨rfl, by rw [hU], by rw [hU]; exact hW.weaken (fun _ _ => trivial), hk.1 _ _ hK hWm⟩⟩ rfl hn hsize rfl (lv_room hrest) hdg hf) hS (fun q _ h => hAA q h) hAA (fun w' t H1 locs1 ht hvm hw hB hz1 hk1 hS1 => ?_)
  exact kk w' H1 locs1 hw (wd_P.weaken (by rw [← ht]; exact hB) hAA) hz1 hS1
theorem wd_callSr {post : Wd × Nat → Prop} {own : String} {index : Nat} {y : MethodName} {bytes : ByteArray} {maxL nL mc ms n : Nat} {ret : Option FieldType} {ws Ts : List Cond} {rm : Room} {As st : List Value} {KK : State → Prop} {c2 s2 : Nat} (S : CallFix p m c cc nL s args Ts own)
    (hM : Met l y ws rm (wd_C D cl KK As w H.size) (va_Qr post (fun u a t => a = u.2 ∧ wd_P D cl (wd_A w H.size) u.1 t.heap) (wd_A w H.size)) mc ms (wd_A w H.size))
    (cw : CallB R s args own index y bytes maxL ret ws rm mc ms n ∧ (Cond.static y).before args s = true) (hk : wd_Kok KK) (hK : KK s) (hW : wd_P D cl A w H) (hS : va_S A H0 H locs) (hA : ∀ q, H0.size ≤ q → A q)
    (hn : As.length = n) (hsize : ls.size = nL) (hst : st = As.reverse ++ rest) (hrest : (rest.map fun v => v.category).sum ≤ 8) (hdg : decode cc pc = .ok (.invokestatic index, 3)) (hf : cells + mc ≤ R.cells ∧ slots + ms ≤ R.slots) (hc2 : cells + mc = c2) (hs2 : slots + ms = s2)
    (kk : ∀ (w' : Wd) (ra : Nat) (H1 : Heap) (locs1 : List Loc), post (w', ra) → wd_P D cl A w' H1 → H.size ≤ H1.size → va_S A H0 H1 locs1 → W p l e R s m args below meth c H1 locs1 c2 s2 Q (F0 m (pc + 3) ls (.ref ra :: rest))) : W p l e R s m args below meth c H locs cells slots Q (F0 m pc ls st) := by
  subst hst hc2 hs2
  have hAA := hW.free hS hA
  refine va_callr (va_runS (As := As) (rest := rest) S hM cw ⟨fun a U g mk q => by obtain ⟨q0, q1, q2, q3⟩ := q; exact ⟨q0, q1, q2, hk.2 _ _ _ _ q3⟩, fun U hU hWm => ⟨rfl, by rw [hU], by rw [hU]; exact hW.weaken (fun _ _ => trivial), hk.1 _ _ hK hWm⟩⟩ rfl hn hsize rfl (lv_room hrest) hdg hf) hS (fun q _ h => hAA q h) hAA (fun u ra t H1 locs1 ht hvm hw hB hz1 hk1 hS1 => ?_)
  exact kk u.1 ra H1 locs1 (by rw [hB.1]; exact hw) (wd_P.weaken (by rw [← ht]; exact hB.2) hAA) hz1 hS1
theorem wd_callIv {post : Wd → Prop} {own : String} {index : Nat} {y : MethodName} {bytes : ByteArray} {maxL nL mc ms n : Nat} {ws Ts : List Cond} {rm : Room} {As st : List Value} {b : Nat} {KK : State → Prop} {c2 s2 : Nat} (S : CallFix p m c cc nL s args Ts own)
    (hM : Met l y ws rm (wd_C D cl KK (.ref b :: As) w H.size) (va_Qv post (wd_B D cl (wd_A w H.size)) (wd_A w H.size)) mc ms (wd_A w H.size))
    (cw : CallB R s args own index y bytes maxL none ws rm mc ms n ∧ y.name = "<init>" ∧ (Cond.instanceMethod y).before args s = true) (hk : wd_Kok KK) (hK : KK s) (hW : wd_P D cl A w H) (hS : va_S A H0 H locs) (hA : ∀ q, H0.size ≤ q → A q)
    (hn : As.length = n) (hsize : ls.size = nL) (hst : st = As.reverse ++ .ref b :: rest) (hrest : (rest.map fun v => v.category).sum ≤ 8) (hdg : decode cc pc = .ok (.invokespecial index, 3)) (hf : cells + mc ≤ R.cells ∧ slots + ms ≤ R.slots) (hc2 : cells + mc = c2) (hs2 : slots + ms = s2)
    (kk : ∀ (w' : Wd) (H1 : Heap) (locs1 : List Loc), post w' → wd_P D cl A w' H1 → H.size ≤ H1.size → va_S A H0 H1 locs1 → W p l e R s m args below meth c H1 locs1 c2 s2 Q (F0 m (pc + 3) ls rest)) : W p l e R s m args below meth c H locs cells slots Q (F0 m pc ls st) := by
  subst hst hc2 hs2
  have hAA := hW.free hS hA
  refine va_callv (va_runI (As := As) (rest := rest) S hM cw ⟨fun a U g mk q => by obtain ⟨q0, q1, q2, q3⟩ := q; exact ⟨q0, q1, q2, hk.2 _ _ _ _ q3⟩, fun U hU hWm => ⟨rfl, by rw [hU], by rw [hU]; exact hW.weaken (fun _ _ => trivial), hk.1 _ _ hK hWm⟩⟩ rfl hn hsize rfl (lv_room hrest) hdg hf) hS (fun q _ h => hAA q h) hAA (fun w' t H1 locs1 ht hvm hw hB hz1 hk1 hS1 => ?_)
  exact kk w' H1 locs1 hw (wd_P.weaken (by rw [← ht]; exact hB) hAA) hz1 hS1
theorem wd_callSNi {post : Int32 → Wd → Prop} {own : String} {host : String} {index : Nat} {y : MethodName} {bytes : ByteArray} {maxL nL mc ms n : Nat} {ret : Option FieldType} {ws Ts : List Cond} {rm : Room} {As st : List Value} {KK : State → Prop} {c2 s2 : Nat} (S : CallFix p m c cc nL s args Ts own)
    (hM : Met l y ws rm (wd_C D cl KK As w H.size) (va_Qi post (wd_B D cl (wd_A w H.size)) (wd_A w H.size)) mc ms (wd_A w H.size))
    (cw : va_CN R s args own index y host bytes maxL ret ws rm mc ms n ∧ (Cond.static y).before args s = true ∧ True) (hk : wd_Kok KK) (hK : KK s) (hW : wd_P D cl A w H) (hS : va_S A H0 H locs) (hA : ∀ q, H0.size ≤ q → A q)
    (hn : As.length = n) (hsize : ls.size = nL) (hst : st = As.reverse ++ rest) (hrest : (rest.map fun v => v.category).sum ≤ 8) (hdg : decode cc pc = .ok (.invokestatic index, 3)) (hf : cells + mc ≤ R.cells ∧ slots + ms ≤ R.slots) (hc2 : cells + mc = c2) (hs2 : slots + ms = s2)
    (kk : ∀ (r : Int32) (w' : Wd) (H1 : Heap) (locs1 : List Loc), post r w' → wd_P D cl A w' H1 → H.size ≤ H1.size → va_S A H0 H1 locs1 → W p l e R s m args below meth c H1 locs1 c2 s2 Q (F0 m (pc + 3) ls (.int r :: rest))) : W p l e R s m args below meth c H locs cells slots Q (F0 m pc ls st) := by
  subst hst hc2 hs2
  have hAA := hW.free hS hA
  refine va_calli (va_runSN (As := As) (rest := rest) S hM cw ⟨fun a U g mk q => by obtain ⟨q0, q1, q2, q3⟩ := q; exact ⟨q0, q1, q2, hk.2 _ _ _ _ q3⟩, fun U hU hWm => ⟨rfl, by rw [hU], by rw [hU]; exact hW.weaken (fun _ _ => trivial), hk.1 _ _ hK hWm⟩⟩ rfl hn hsize rfl (lv_room hrest) hdg hf) hS (fun q _ h => hAA q h) hAA (fun r w' t H1 locs1 ht hvm hw hB hz1 hk1 hS1 => ?_)
  exact kk r w' H1 locs1 hw (wd_P.weaken (by rw [← ht]; exact hB) hAA) hz1 hS1
theorem wd_callSNv {post : Wd → Prop} {own : String} {host : String} {index : Nat} {y : MethodName} {bytes : ByteArray} {maxL nL mc ms n : Nat} {ret : Option FieldType} {ws Ts : List Cond} {rm : Room} {As st : List Value} {KK : State → Prop} {c2 s2 : Nat} (S : CallFix p m c cc nL s args Ts own)
    (hM : Met l y ws rm (wd_C D cl KK As w H.size) (va_Qv post (wd_B D cl (wd_A w H.size)) (wd_A w H.size)) mc ms (wd_A w H.size))
    (cw : va_CN R s args own index y host bytes maxL ret ws rm mc ms n ∧ (Cond.static y).before args s = true ∧ True) (hk : wd_Kok KK) (hK : KK s) (hW : wd_P D cl A w H) (hS : va_S A H0 H locs) (hA : ∀ q, H0.size ≤ q → A q)
    (hn : As.length = n) (hsize : ls.size = nL) (hst : st = As.reverse ++ rest) (hrest : (rest.map fun v => v.category).sum ≤ 8) (hdg : decode cc pc = .ok (.invokestatic index, 3)) (hf : cells + mc ≤ R.cells ∧ slots + ms ≤ R.slots) (hc2 : cells + mc = c2) (hs2 : slots + ms = s2)
    (kk : ∀ (w' : Wd) (H1 : Heap) (locs1 : List Loc), post w' → wd_P D cl A w' H1 → H.size ≤ H1.size → va_S A H0 H1 locs1 → W p l e R s m args below meth c H1 locs1 c2 s2 Q (F0 m (pc + 3) ls rest)) : W p l e R s m args below meth c H locs cells slots Q (F0 m pc ls st) := by
  subst hst hc2 hs2
  have hAA := hW.free hS hA
  refine va_callv (va_runSN (As := As) (rest := rest) S hM cw ⟨fun a U g mk q => by obtain ⟨q0, q1, q2, q3⟩ := q; exact ⟨q0, q1, q2, hk.2 _ _ _ _ q3⟩, fun U hU hWm => ⟨rfl, by rw [hU], by rw [hU]; exact hW.weaken (fun _ _ => trivial), hk.1 _ _ hK hWm⟩⟩ rfl hn hsize rfl (lv_room hrest) hdg hf) hS (fun q _ h => hAA q h) hAA (fun w' t H1 locs1 ht hvm hw hB hz1 hk1 hS1 => ?_)
  exact kk w' H1 locs1 hw (wd_P.weaken (by rw [← ht]; exact hB) hAA) hz1 hS1
theorem wd_recv {ci : Nat} {q : vw_C} {fs : List Value} (hK : va_K D cl tys s) (hW : wd_P D cl A w H) (hc : cl[ci]? = some q) (he : w a = some (.inr (ci, fs))) : ∃ cell : Cell, H[a]? = some cell ∧ cell.vm.isStatics = false ∧ s.vm.findClass q.1 = some cell.cls := by
  obtain ⟨L, hL, hP, hD⟩ := hW
  obtain ⟨q0, hq⟩ := wd_in hL he
  exact va_recv hK hP hc hq
/-- ends -/
theorem wd_iret {post : Int32 → Wd → Prop} {w0 : Wd} {v : Int32} (hexec : p.tables.exec = Jvm.exec) (hb : c.code = cc) (hr : meth.sig.returnType = some .int) (hlocks : meth.locks = false) (hW : wd_P D cl (wd_A w0 s.heap.size) w H) (hS : va_S (wd_A w0 s.heap.size) s.heap H locs) (hdg : decode cc pc = .ok (.ireturn, 1)) (hp : post v w) :
    W p l e R s m args below meth c H locs cells slots (MQ below (va_Qi post (wd_B D cl (wd_A w0 s.heap.size)) (wd_A w0 s.heap.size)) args s cells slots (wd_A w0 s.heap.size)) (F0 m pc ls [.int v]) :=
  W.iret hexec hb hr (fun t ht hWm => ⟨⟨v, w, rfl, hp, by rw [wd_B, ht]; exact hW⟩, hS.F ht⟩) hS.2.2 hdg hlocks
theorem wd_zret {post : Int32 → Wd → Prop} {w0 : Wd} {v : Int32} (hexec : p.tables.exec = Jvm.exec) (hb : c.code = cc) (hr : meth.sig.returnType = some .boolean) (hlocks : meth.locks = false) (hn : v = 0 ∨ v = 1) (hW : wd_P D cl (wd_A w0 s.heap.size) w H) (hS : va_S (wd_A w0 s.heap.size) s.heap H locs) (hdg : decode cc pc = .ok (.ireturn, 1)) (hp : post v w) :
    W p l e R s m args below meth c H locs cells slots (MQ below (va_Qi post (wd_B D cl (wd_A w0 s.heap.size)) (wd_A w0 s.heap.size)) args s cells slots (wd_A w0 s.heap.size)) (F0 m pc ls [.int v]) :=
  W.zret hexec hb hr (by rcases hn with h | h <;> subst h <;> decide) (fun t ht hWm => ⟨⟨v, w, rfl, hp, by rw [wd_B, ht]; exact hW⟩, hS.F ht⟩) hS.2.2 hdg hlocks
theorem wd_vret {post : Wd → Prop} {w0 : Wd} (hexec : p.tables.exec = Jvm.exec) (hb : c.code = cc) (hr : meth.sig.returnType = none) (hlocks : meth.locks = false) (hW : wd_P D cl (wd_A w0 s.heap.size) w H) (hS : va_S (wd_A w0 s.heap.size) s.heap H locs) (hdg : decode cc pc = .ok (.return_, 1)) (hp : post w) :
    W p l e R s m args below meth c H locs cells slots (MQ below (va_Qv post (wd_B D cl (wd_A w0 s.heap.size)) (wd_A w0 s.heap.size)) args s cells slots (wd_A w0 s.heap.size)) (F0 m pc ls []) :=
  W.vret hexec hb hr (fun t ht hWm => ⟨⟨w, rfl, hp, by rw [wd_B, ht]; exact hW⟩, hS.F ht⟩) hS.2.2 hdg hlocks
theorem wd_aret {post : Wd × Nat → Prop} {w0 : Wd} {ra : Nat} {rt : FieldType} (hexec : p.tables.exec = Jvm.exec) (hb : c.code = cc) (hr : meth.sig.returnType = some rt) (hrt : (∃ n, rt = .object n) ∨ ∃ t, rt = .array t) (hlocks : meth.locks = false) (hW : wd_P D cl (wd_A w0 s.heap.size) w H) (hS : va_S (wd_A w0 s.heap.size) s.heap H locs) (hdg : decode cc pc = .ok (.areturn, 1)) (hp : post (w, ra)) :
    W p l e R s m args below meth c H locs cells slots (MQ below (va_Qr post (fun u a t => a = u.2 ∧ wd_P D cl (wd_A w0 s.heap.size) u.1 t.heap) (wd_A w0 s.heap.size)) args s cells slots (wd_A w0 s.heap.size)) (F0 m pc ls [.ref ra]) :=
  W.aret hexec hb hr hrt (Or.inr ⟨ra, rfl⟩) (fun t ht hWm => ⟨⟨(w, ra), ra, rfl, hp, rfl, by rw [ht]; exact hW⟩, hS.F ht⟩) hS.2.2 hdg hlocks
theorem wd_topE {x y : Int32} (h : x = y) (k : W p l e R s m args below meth c H locs cells slots Q (F0 m pc ls (.int y :: rest))) : W p l e R s m args below meth c H locs cells slots Q (F0 m pc ls (.int x :: rest)) := by rw [h]; exact k
theorem wd_loop1 {A1 : Type} (I : A1 → Heap → List Loc → Array Slot → Prop) (μ : A1 → Nat) (a1 : A1) (h0 : I a1 H locs ls)
    (hs : ∀ (x1 : A1) (H : Heap) (locs : List Loc) (ls : Array Slot), I x1 H locs ls → (∀ (y1 : A1) (H : Heap) (locs : List Loc) (ls : Array Slot), I y1 H locs ls → μ y1 < μ x1 → W p l e R s m args below meth c H locs cells slots Q (F0 m pc ls rest)) → W p l e R s m args below meth c H locs cells slots Q (F0 m pc ls rest)) : W p l e R s m args below meth c H locs cells slots Q (F0 m pc ls rest) := by
  have key : ∀ (n : Nat) (x1 : A1) (H : Heap) (locs : List Loc) (ls : Array Slot), μ x1 < n → I x1 H locs ls → W p l e R s m args below meth c H locs cells slots Q (F0 m pc ls rest) := by
    intro n
    induction n with
    | zero => intro x1 H locs ls h; exact absurd h (Nat.not_lt_zero _)
    | succ n ih => intro x1 H locs ls h hI; exact hs x1 H locs ls hI (fun y1 H locs ls hI' hlt => ih y1 H locs ls (by omega) hI')
  exact key (μ a1 + 1) a1 H locs ls (Nat.lt_succ_self _) h0
theorem wd_loop2 {A1 A2 : Type} (I : A1 → A2 → Heap → List Loc → Array Slot → Prop) (μ : A1 → A2 → Nat) (a1 : A1) (a2 : A2) (h0 : I a1 a2 H locs ls)
    (hs : ∀ (x1 : A1) (x2 : A2) (H : Heap) (locs : List Loc) (ls : Array Slot), I x1 x2 H locs ls → (∀ (y1 : A1) (y2 : A2) (H : Heap) (locs : List Loc) (ls : Array Slot), I y1 y2 H locs ls → μ y1 y2 < μ x1 x2 → W p l e R s m args below meth c H locs cells slots Q (F0 m pc ls rest)) → W p l e R s m args below meth c H locs cells slots Q (F0 m pc ls rest)) : W p l e R s m args below meth c H locs cells slots Q (F0 m pc ls rest) :=
  wd_loop1 (fun (x : A1 × A2) => I x.1 x.2) (fun x => μ x.1 x.2) (a1, a2) h0 (fun x H locs ls hI ih => hs x.1 x.2 H locs ls hI (fun y1 y2 => ih (y1, y2)))
theorem wd_loop3 {A1 A2 A3 : Type} (I : A1 → A2 → A3 → Heap → List Loc → Array Slot → Prop) (μ : A1 → A2 → A3 → Nat) (a1 : A1) (a2 : A2) (a3 : A3) (h0 : I a1 a2 a3 H locs ls)
    (hs : ∀ (x1 : A1) (x2 : A2) (x3 : A3) (H : Heap) (locs : List Loc) (ls : Array Slot), I x1 x2 x3 H locs ls → (∀ (y1 : A1) (y2 : A2) (y3 : A3) (H : Heap) (locs : List Loc) (ls : Array Slot), I y1 y2 y3 H locs ls → μ y1 y2 y3 < μ x1 x2 x3 → W p l e R s m args below meth c H locs cells slots Q (F0 m pc ls rest)) → W p l e R s m args below meth c H locs cells slots Q (F0 m pc ls rest)) : W p l e R s m args below meth c H locs cells slots Q (F0 m pc ls rest) :=
  wd_loop1 (fun (x : A1 × A2 × A3) => I x.1 x.2.1 x.2.2) (fun x => μ x.1 x.2.1 x.2.2) (a1, a2, a3) h0 (fun x H locs ls hI ih => hs x.1 x.2.1 x.2.2 H locs ls hI (fun y1 y2 y3 => ih (y1, y2, y3)))
end WDR
theorem wd_ne {w : Wd} {a b : Nat} {x y : va_E} (ha : w a = some x) (hb : w b = some y) (h : x ≠ y) : a ≠ b := fun e => h (by subst e; exact Option.some.inj (ha.symm.trans hb))
/-- a contract out of a walk -/
def wd_At (p : Program) (y : MethodName) (ws : List Cond) (cc : ByteArray) (maxL : Nat) (ret : Option FieldType) (av : List Value) (s : State) (m : MethodId) (meth : Method) (c : Code) : Prop :=
  p.tables.exec = Jvm.exec ∧ c.code = cc ∧ meth.sig.returnType = ret ∧ c.maxLocals = maxL ∧ s.vm.findClass y.cls = some m.cls ∧ (∀ w ∈ ws, w.before av.toArray s = true) ∧ meth.locks = false ∧ meth.name = y.name
theorem wd_met {l : Launch} {D : va_G} {cl : List vw_C} {KK : State → Prop} {y : MethodName} {ws ws' : List Cond} {rm : Room} {cc : ByteArray} {maxL : Nat} {ret : Option FieldType} {av : List Value} {w : Wd} {sz mc ms : Nat} {Qc : Array Value → State → Outcome → State → Prop} (hy : plainName y.cls = true) (hw : ws = Cond.code y cc maxL ret :: ws') (hlen : (lg_sl av).length ≤ maxL)
    (body : ∀ (p : Program) (e : Env) (s : State) (m : MethodId) (below : List Frame) (meth : Method) (c : Code) (ls : Array Slot), wd_At p y ws cc maxL ret av s m meth c → s.heap.size = sz → KK s → wd_P D cl (wd_A w s.heap.size) w s.heap → lv_has ls maxL (lv_args 0 av) →
      W p l e rm s m av.toArray below meth c s.heap [] 0 0 (MQ below Qc av.toArray s mc ms (wd_A w s.heap.size)) (F0 m 0 ls [])) : Met l y ws rm (wd_C D cl KK av w sz) Qc mc ms (wd_A w sz) := by
  refine Met.ofW (cc := cc) (maxL := maxL) (ret := ret) hy hw ?_
  intro p e s m args below meth c s₁ B hml hv
  obtain ⟨rfl, hsz, hP, hK⟩ := hv
  subst hsz
  rw [lg_entry_eq]
  have hl := lv_entry av (n := maxL) hlen
  refine body p e s m below meth c _ ⟨B.exec, B.bytes, B.returns, hml, findClass_of_methodNamed B.named, atoms_spec (ws := ws) B.pre, B.notSynchronized, (name_of_methodNamed B.named B.method).1⟩ rfl hK ?_ hl
  obtain ⟨L, hL, hP1, hD⟩ := hP
  exact ⟨L, hL, hP1, hD.1, fun k q hk => Or.inl ((hL q.1).mp (by obtain ⟨a, ha, rfl⟩ := List.mem_map.mp (List.mem_of_getElem? hk); exact ha))⟩
