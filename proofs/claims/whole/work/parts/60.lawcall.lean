/-! The law: two worlds side by side, the class's and the reference's; a call in one leaves the other as it was -/
section LWC
variable {p : Program} {l : Launch} {e : Env} {R : Room} {s : State} {m : MethodId} {args : Array Value} {below : List Frame} {meth : Method} {c : Code} {H : Heap} {locs : List Loc} {cells slots : Nat} {Q : State → Prop}
variable {cc : ByteArray} {pc : Nat} {ls : Array Slot} {rest : List Value} {D : va_G} {cl : List vw_C} {A : Nat → Prop} {w w2 : Wd} {H0 : Heap}
theorem wd_two {H1 : Heap} {w' : Wd} (hW2 : wd_P D cl A w2 H) (hd : ∀ q, w q ≠ none → w2 q = none) (h1 : wd_P D cl (wd_A w H.size) w' H1) (hk : ∀ q : Nat, q < H.size → ¬ wd_A w H.size q → H1[q]? = H[q]?) : wd_P D cl A w2 H1 ∧ ∀ q, w' q ≠ none → w2 q = none := by
  refine ⟨hW2.kept (fun q hq => ?_), fun q hq => ?_⟩
  · have hlt := hW2.lt hq
    refine hk q hlt (fun h => ?_)
    rcases h with h | h
    · exact hq (hd q h)
    · omega
  · rcases h1.inA hq with h | h
    · exact hd q h
    · cases h2 : w2 q with
      | none => rfl
      | some x =>
        have := hW2.lt (q := q) (by rw [h2]; simp)
        omega
theorem wd_callVi2 {post : Int32 → Wd → Prop} {own : String} {C : String} {index : Nat} {y : MethodName} {bytes : ByteArray} {maxL nL mc ms n : Nat} {ret : Option FieldType} {ws Ts : List Cond} {rm : Room} {As st : List Value} {b : Nat} {KK : State → Prop} {c2 s2 : Nat} (S : CallFix p m c cc nL s args Ts own)
    (hM : Met l y ws rm (wd_C D cl KK (.ref b :: As) w H.size) (va_Qi post (wd_B D cl (wd_A w H.size)) (wd_A w H.size)) mc ms (wd_A w H.size))
    (cw : CallW R s args own C index y bytes maxL ret ws rm mc ms n) (hk : wd_Kok KK) (hK : KK s) (hW : wd_P D cl A w H) (hrecv : ∃ cellB : Cell, H[b]? = some cellB ∧ cellB.vm.isStatics = false ∧ s.vm.findClass C = some cellB.cls) (hS : va_S A H0 H locs) (hA : ∀ q, H0.size ≤ q → A q)
    (hn : As.length = n) (hsize : ls.size = nL) (hst : st = As.reverse ++ .ref b :: rest) (hrest : (rest.map fun v => v.category).sum ≤ 8) (hdg : decode cc pc = .ok (.invokevirtual index, 3)) (hf : cells + mc ≤ R.cells ∧ slots + ms ≤ R.slots) (hc2 : cells + mc = c2) (hs2 : slots + ms = s2)
    (hW2 : wd_P D cl A w2 H) (hd : ∀ q, w q ≠ none → w2 q = none)
    (kk : ∀ (r : Int32) (w' : Wd) (H1 : Heap) (locs1 : List Loc), post r w' → wd_P D cl A w' H1 → wd_P D cl A w2 H1 → (∀ q, w' q ≠ none → w2 q = none) → va_S A H0 H1 locs1 → W p l e R s m args below meth c H1 locs1 c2 s2 Q (F0 m (pc + 3) ls (.int r :: rest))) : W p l e R s m args below meth c H locs cells slots Q (F0 m pc ls st) := by
  subst hst hc2 hs2
  have hAA := hW.free hS hA
  refine va_calli (va_runV (As := As) (rest := rest) S hM cw ⟨fun a U g mk q => by obtain ⟨q0, q1, q2, q3⟩ := q; exact ⟨q0, q1, q2, hk.2 _ _ _ _ q3⟩, hrecv, fun U hU hWm => ⟨rfl, by rw [hU], by rw [hU]; exact hW.weaken (fun _ _ => trivial), hk.1 _ _ hK hWm⟩⟩ rfl hn hsize rfl (lv_room hrest) hdg hf) hS (fun q _ h => hAA q h) hAA (fun r w' t H1 locs1 ht hvm hw hB hz1 hk1 hS1 => ?_)
  have hB1 : wd_P D cl (wd_A w H.size) w' H1 := by rw [← ht]; exact hB
  obtain ⟨a1, a2⟩ := wd_two hW2 hd hB1 hk1
  exact kk r w' H1 locs1 hw (hB1.weaken hAA) a1 a2 hS1
theorem wd_callIv2 {post : Wd → Prop} {own : String} {index : Nat} {y : MethodName} {bytes : ByteArray} {maxL nL mc ms n : Nat} {ws Ts : List Cond} {rm : Room} {As st : List Value} {b : Nat} {KK : State → Prop} {c2 s2 : Nat} (S : CallFix p m c cc nL s args Ts own)
    (hM : Met l y ws rm (wd_C D cl KK (.ref b :: As) w H.size) (va_Qv post (wd_B D cl (wd_A w H.size)) (wd_A w H.size)) mc ms (wd_A w H.size))
    (cw : CallB R s args own index y bytes maxL none ws rm mc ms n ∧ y.name = "<init>" ∧ (Cond.instanceMethod y).before args s = true) (hk : wd_Kok KK) (hK : KK s) (hW : wd_P D cl A w H) (hS : va_S A H0 H locs) (hA : ∀ q, H0.size ≤ q → A q)
    (hn : As.length = n) (hsize : ls.size = nL) (hst : st = As.reverse ++ .ref b :: rest) (hrest : (rest.map fun v => v.category).sum ≤ 8) (hdg : decode cc pc = .ok (.invokespecial index, 3)) (hf : cells + mc ≤ R.cells ∧ slots + ms ≤ R.slots) (hc2 : cells + mc = c2) (hs2 : slots + ms = s2)
    (hW2 : wd_P D cl A w2 H) (hd : ∀ q, w q ≠ none → w2 q = none)
    (kk : ∀ (w' : Wd) (H1 : Heap) (locs1 : List Loc), post w' → wd_P D cl A w' H1 → wd_P D cl A w2 H1 → (∀ q, w' q ≠ none → w2 q = none) → va_S A H0 H1 locs1 → W p l e R s m args below meth c H1 locs1 c2 s2 Q (F0 m (pc + 3) ls rest)) : W p l e R s m args below meth c H locs cells slots Q (F0 m pc ls st) := by
  subst hst hc2 hs2
  have hAA := hW.free hS hA
  refine va_callv (va_runI (As := As) (rest := rest) S hM cw ⟨fun a U g mk q => by obtain ⟨q0, q1, q2, q3⟩ := q; exact ⟨q0, q1, q2, hk.2 _ _ _ _ q3⟩, fun U hU hWm => ⟨rfl, by rw [hU], by rw [hU]; exact hW.weaken (fun _ _ => trivial), hk.1 _ _ hK hWm⟩⟩ rfl hn hsize rfl (lv_room hrest) hdg hf) hS (fun q _ h => hAA q h) hAA (fun w' t H1 locs1 ht hvm hw hB hz1 hk1 hS1 => ?_)
  have hB1 : wd_P D cl (wd_A w H.size) w' H1 := by rw [← ht]; exact hB
  obtain ⟨a1, a2⟩ := wd_two hW2 hd hB1 hk1
  exact kk w' H1 locs1 hw (hB1.weaken hAA) a1 a2 hS1
end LWC
theorem wd_sep {w w2 : Wd} (h : ∀ q, w q ≠ none → w2 q = none) : ∀ q, w2 q ≠ none → w q = none := fun q hq => by
  cases e : w q with
  | none => rfl
  | some x => exact absurd (h q (by rw [e]; simp)) hq
theorem InvC.recv {cI cT : ClassId} {o : Nat} {S : Sg} {w : Wd} (h : InvC cI cT o S w) : ∃ fs, w o = some (.inr (2, fs)) := by
  obtain ⟨_, _, _, _, _, _, _, _, _, _, _, h⟩ := h
  exact ⟨_, h.1⟩
theorem InvR.recv {cI : ClassId} {m : Nat} {S : Sg} {w : Wd} (h : InvR cI m S w) : ∃ fs, w m = some (.inr (3, fs)) := by
  obtain ⟨_, _, _, _, _, _, _, h, _, _⟩ := h
  exact ⟨_, h.1⟩
/-- the cells that the law may write: all new ones -/
abbrev lw_A (s : State) : Nat → Prop := fun q => s.heap.size ≤ q
/-- the class's world and the reference's, in one heap, apart, in one state -/
def lw_J (D : va_G) (cI cT : ClassId) (s : State) (o mm : Nat) (S : Sg) (wC wR : Wd) (H : Heap) (locs : List Loc) : Prop :=
  WF S ∧ InvC cI cT o S wC ∧ InvR cI mm S wR ∧ wd_P D vwCl (lw_A s) wC H ∧ wd_P D vwCl (lw_A s) wR H ∧ (∀ q, wC q ≠ none → wR q = none) ∧ va_S (lw_A s) s.heap H locs
