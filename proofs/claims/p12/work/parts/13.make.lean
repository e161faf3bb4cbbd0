/-! making the objects: worlds as lists, the newest last -/
def XN2 (s : State) : Prop := XN s ∧ va_Nw (.methodLinkNest "LearnedRanker" 9 y_Sh_init "LearnedRanker") s ∧ va_Nw (.methodLinkNest "LearnedRanker$Forest" 21 y_Tr_init "LearnedRanker") s ∧ va_Nw (.methodLinkNest "LearnedRanker" 36 y_Gr_init "LearnedRanker") s ∧ va_Nw (.methodLinkNest "LearnedRanker" 43 y_Ra_init "LearnedRanker") s ∧ va_AO "LearnedRanker$Tree" s ∧ va_AOA .int s
theorem XN2.warm {s U : State} (hW : s.WarmedH U.vm) (h : XN2 s) : XN2 U := ⟨va_Nw.warmM hW h.1, va_Nw.warmM hW h.2.1, va_Nw.warmM hW h.2.2.1, va_Nw.warmM hW h.2.2.2.1, va_Nw.warmM hW h.2.2.2.2.1, va_AO.moved hW.alike h.2.2.2.2.2.1, va_AOA.moved hW.alike h.2.2.2.2.2.2⟩
theorem XN2.calling {U : State} {gg : JFrame} {mk : MethodId} {a : Array Value} (h : XN2 U) : XN2 (U.calling gg mk a) := ⟨va_Nw.same (U := U.calling gg mk a) rfl rfl h.1, va_Nw.same (U := U.calling gg mk a) rfl rfl h.2.1, va_Nw.same (U := U.calling gg mk a) rfl rfl h.2.2.1, va_Nw.same (U := U.calling gg mk a) rfl rfl h.2.2.2.1, va_Nw.same (U := U.calling gg mk a) rfl rfl h.2.2.2.2.1, va_AO.moved (u := U) (U := U.calling gg mk a) (Vm.Alike.refl U.vm) h.2.2.2.2.2.1, va_AOA.moved (u := U) (U := U.calling gg mk a) (Vm.Alike.refl U.vm) h.2.2.2.2.2.2⟩
def YH (D : va_G) (g : Ids) (A : Nat → Prop) (s : State) (H0 H : Heap) (locs : List Loc) (ws : va_W) : Prop := va_K D vwC (xty g) s ∧ va_P D vwC ws H ∧ va_D A ws ∧ va_S A H0 H locs ∧ XN2 s
theorem ty_eq {D : va_G} {g : Ids} {s : State} {cA : ClassId} {ty : FieldType} (k : Nat) {cB : ClassId} (h : va_K D vwC (xty g ++ [(cA, ty)]) s) (hk : (xty g)[k]? = some (cB, ty)) (hne : ∀ C, ty ≠ .object C) : cA = cB := by
  have h1 := (h.2 5 (cA, ty) rfl).2
  have h2 := (h.2 k (cB, ty) (by rw [List.getElem?_append_left (by have := (List.getElem?_eq_some_iff.mp hk).1; exact this)]; exact hk)).2
  unfold va_RA at h1 h2
  cases ty with
  | object C => exact absurd rfl (hne C)
  | _ => exact Option.some.inj (h1.symm.trans h2)
theorem ty_eqO {D : va_G} {g : Ids} {s : State} {cA : ClassId} {C : String} (k : Nat) {cB : ClassId} (h : va_K D vwC (xty g ++ [(cA, .object C)]) s) (hk : (xty g)[k]? = some (cB, .object C)) : cA = cB := by
  obtain ⟨_, _, _, _, _, h1⟩ := (h.2 5 (cA, .object C) rfl).2
  obtain ⟨_, _, _, _, _, h2⟩ := (h.2 k (cB, .object C) (by rw [List.getElem?_append_left (by have := (List.getElem?_eq_some_iff.mp hk).1; exact this)]; exact hk)).2
  exact Option.some.inj (h1.symm.trans h2)
section YR
variable {p : Program} {l : Launch} {e : Env} {R : Room} {s : State} {m : MethodId} {args : Array Value} {below : List Frame} {meth : Method} {c : Code} {H : Heap} {locs : List Loc} {cells slots : Nat} {Q : State → Prop}
variable {cc : ByteArray} {pc : Nat} {ls : Array Slot} {rest : List Value} {D : va_G} {g : Ids} {A : Nat → Prop} {ws : va_W} {H0 : Heap}
set_option maxHeartbeats 200000 in
theorem y_new (hx : p.tables.exec = Jvm.exec) (hb : c.code = cc) (ht : ∀ w ∈ lwg, w.before args s = true) {own C : String} {T : u_T} {N ci index : Nat} (hin : ∀ w ∈ u_ws C T N, w ∈ lwg) (ty : Nat → FieldType) (hty : ∀ k, k < N → parseFieldDescriptor (T k).2.2.1 = some (ty k)) (hown : s.vm.findClass own = some m.cls) (hcl : (Cond.classLink own index C).before args s = true) (hinst : (Cond.instantiable C N).before args s = true) (hini : (Cond.initialized C).before args s = true)
    (hw : YH D g A s H0 H locs ws) (hA : ∀ q, H0.size ≤ q → A q) (hc : vwC[ci]? = some (C, T, N)) {fs : List Value} (hfs : ∀ j, j < N → defaultValue (ty j) = vp_V fs j) (hcells : cells + 1 ≤ R.cells) (hslots : slots + N ≤ R.slots) (hdg : decode cc pc = .ok (.new index, 3))
    (kk : ∀ (q : Nat) (H : Heap), YH D g A s H0 H locs (ws ++ [(q, .inr (ci, fs))]) → W p l e R s m args below meth c H locs (cells + 1) (slots + N) Q (F0 m (pc + 3) ls (.ref q :: rest))) : W p l e R s m args below meth c H locs cells slots Q (F0 m pc ls rest) := by
  obtain ⟨hK, hP, hD, hS, hN⟩ := hw
  exact va_new hx hb ht hin ty hty hown hcl hinst hini hK hP hD hS hA hc hfs hcells hslots hdg (fun q H1 hP1 hD1 hS1 => kk q H1 ⟨hK, hP1, hD1, hS1, hN⟩)
set_option maxHeartbeats 200000 in
theorem y_newI (hx : p.tables.exec = Jvm.exec) (hb : c.code = cc) (ht : (Cond.arrayClass .int).before args s = true) (hw : YH D g A s H0 H locs ws) (hA : ∀ q, H0.size ≤ q → A q) {n : Int32} (N : Nat) (hn : n = nI N) (hNb : N ≤ 1000) (hcells : cells + 1 ≤ R.cells) (hslots : slots + N ≤ R.slots) (hdg : decode cc pc = .ok (.newarray .int, 2))
    (kk : ∀ (q : Nat) (H : Heap), YH D g A s H0 H locs (ws ++ [(q, .inl (g.1, N, .inl (fun _ => 0)))]) → W p l e R s m args below meth c H locs (cells + 1) (slots + N) Q (F0 m (pc + 2) ls (.ref q :: rest))) : W p l e R s m args below meth c H locs cells slots Q (F0 m pc ls (.int n :: rest)) := by
  obtain ⟨hK, hP, hD, hS, hN⟩ := hw
  subst hn
  have hb9 : N * componentBytes .int ≤ 536870912 := by rw [show componentBytes FieldType.int = 4 from rfl]; omega
  refine va_newa (atype := .int) (N' := N) (ty := .int) (a0 := (N, .inl (fun _ => 0))) hx hb ht rfl hK hP hD hS hA (fun _ => rfl) (nI_pos (by omega)) (nI_clamp (by omega)) hb9 hcells hslots hdg (fun q cA H1 hK1 hP1 hD1 hS1 => ?_)
  have e := ty_eq 0 hK1 rfl (fun _ h => by cases h)
  subst e
  exact kk q H1 ⟨hK, hP1, hD1, hS1, hN⟩
set_option maxHeartbeats 200000 in
theorem y_newZ (hx : p.tables.exec = Jvm.exec) (hb : c.code = cc) (ht : (Cond.arrayClass .boolean).before args s = true) (hw : YH D g A s H0 H locs ws) (hA : ∀ q, H0.size ≤ q → A q) {n : Int32} (N : Nat) (hn : n = nI N) (hNb : N ≤ 1000) (hcells : cells + 1 ≤ R.cells) (hslots : slots + N ≤ R.slots) (hdg : decode cc pc = .ok (.newarray .boolean, 2))
    (kk : ∀ (q : Nat) (H : Heap), YH D g A s H0 H locs (ws ++ [(q, .inl (g.2.1, N, .inl (fun _ => 0)))]) → W p l e R s m args below meth c H locs (cells + 1) (slots + N) Q (F0 m (pc + 2) ls (.ref q :: rest))) : W p l e R s m args below meth c H locs cells slots Q (F0 m pc ls (.int n :: rest)) := by
  obtain ⟨hK, hP, hD, hS, hN⟩ := hw
  subst hn
  have hb9 : N * componentBytes .boolean ≤ 536870912 := by rw [show componentBytes FieldType.boolean = 1 from rfl]; omega
  refine va_newa (atype := .boolean) (N' := N) (ty := .boolean) (a0 := (N, .inl (fun _ => 0))) hx hb ht rfl hK hP hD hS hA (fun _ => rfl) (nI_pos (by omega)) (nI_clamp (by omega)) hb9 hcells hslots hdg (fun q cA H1 hK1 hP1 hD1 hS1 => ?_)
  have e := ty_eq 1 hK1 rfl (fun _ h => by cases h)
  subst e
  exact kk q H1 ⟨hK, hP1, hD1, hS1, hN⟩
set_option maxHeartbeats 200000 in
theorem y_newL (hx : p.tables.exec = Jvm.exec) (hb : c.code = cc) (ht : (Cond.arrayClass .long).before args s = true) (hw : YH D g A s H0 H locs ws) (hA : ∀ q, H0.size ≤ q → A q) {n : Int32} (N : Nat) (hn : n = nI N) (hNb : N ≤ 1000) (hcells : cells + 1 ≤ R.cells) (hslots : slots + N ≤ R.slots) (hdg : decode cc pc = .ok (.newarray .long, 2))
    (kk : ∀ (q : Nat) (H : Heap), YH D g A s H0 H locs (ws ++ [(q, .inl (g.2.2.1, N, .inr (.inl (fun _ => 0))))]) → W p l e R s m args below meth c H locs (cells + 1) (slots + N) Q (F0 m (pc + 2) ls (.ref q :: rest))) : W p l e R s m args below meth c H locs cells slots Q (F0 m pc ls (.int n :: rest)) := by
  obtain ⟨hK, hP, hD, hS, hN⟩ := hw
  subst hn
  have hb9 : N * componentBytes .long ≤ 536870912 := by rw [show componentBytes FieldType.long = 8 from rfl]; omega
  refine va_newa (atype := .long) (N' := N) (ty := .long) (a0 := (N, .inr (.inl (fun _ => 0)))) hx hb ht rfl hK hP hD hS hA (fun _ => rfl) (nI_pos (by omega)) (nI_clamp (by omega)) hb9 hcells hslots hdg (fun q cA H1 hK1 hP1 hD1 hS1 => ?_)
  have e := ty_eq 2 hK1 rfl (fun _ h => by cases h)
  subst e
  exact kk q H1 ⟨hK, hP1, hD1, hS1, hN⟩
end YR
