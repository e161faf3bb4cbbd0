def rowsW (g : Ids) (r : Nat → Nat) (N K : Nat) : va_W := (List.range N).map (fun i => (r i, .inl (g.1, K, .inl (fun _ => 0))))
def outW (g : Ids) (q : Nat) (r : Nat → Nat) (N : Nat) : Nat × va_E := (q, .inl (g.2.2.2.1, N, .inr (.inr (.inr (.inr (fun i => if i < N then some (r i) else none))))))
theorem pl_up {f : Nat → va_E} {l : List Nat} {e : va_E} : va_pl l (vr_up f l e) = l.map (fun a => (a, e)) := by
  unfold va_pl
  apply List.map_congr_left
  intro a ha
  rw [vr_up_in ha]
section YR2
variable {p : Program} {l : Launch} {e : Env} {R : Room} {s : State} {m : MethodId} {args : Array Value} {below : List Frame} {meth : Method} {c : Code} {H : Heap} {locs : List Loc} {cells slots : Nat} {Q : State → Prop}
variable {cc : ByteArray} {pc : Nat} {ls : Array Slot} {rest : List Value} {D : va_G} {g : Ids} {A : Nat → Prop} {ws : va_W} {H0 : Heap} {a : Nat}
set_option maxHeartbeats 400000 in
theorem y_get (hx : p.tables.exec = Jvm.exec) (hb : c.code = cc) (ht : ∀ w ∈ lwg, w.before args s = true) {own C : String} {T : u_T} {N ci index : Nat} (hin : ∀ w ∈ u_ws C T N, w ∈ lwg) (hown : s.vm.findClass own = some m.cls) (hw : YH D g A s H0 H locs ws) (k : Nat) {fs : List Value} (he : ws[k]? = some (a, .inr (ci, fs))) (hc : vwC[ci]? = some (C, T, N)) (f : Nat) (hf : f < N) (hlink : (Cond.fieldLink own index (T f).1 (T f).2.1 (T f).2.2.1).before args s = true) {v : Value} (hv : fs[f]? = some v) (hdg : decode cc pc = .ok (.getfield index, 3))
    (kk : W p l e R s m args below meth c H locs cells slots Q (F0 m (pc + 3) ls (v :: rest))) : W p l e R s m args below meth c H locs cells slots Q (F0 m pc ls (.ref a :: rest)) :=
  va_get hx hb ht hin hown hw.1 hw.2.1 k he hc f hf hlink (fun _ h => h) hv hdg kk
set_option maxHeartbeats 400000 in
theorem y_putF (hx : p.tables.exec = Jvm.exec) (hb : c.code = cc) (ht : ∀ w ∈ lwg, w.before args s = true) {own C : String} {T : u_T} {N ci index : Nat} (hin : ∀ w ∈ u_ws C T N, w ∈ lwg) (ty0 : Nat → FieldType) (hty : ∀ k, k < N → parseFieldDescriptor (T k).2.2.1 = some (ty0 k)) (hnm : ∀ a, a < N → ∀ b, b < N → a ≠ b → (T a).2.1 ≠ (T b).2.1) (hown : s.vm.findClass own = some m.cls) (hw : YH D g A s H0 H locs ws) (k : Nat) {fs : List Value} (he : ws[k]? = some (a, .inr (ci, fs))) (hc : vwC[ci]? = some (C, T, N)) (f : Nat) (hf : f < N) (hlink : (Cond.fieldLink own index (T f).1 (T f).2.1 (T f).2.2.1).before args s = true) (hfin : (T f).2.2.2 = true) (hin2 : meth.name = "<init>") (hdecl : (T f).1 = own) {ty : FieldType} {v : Value} (hd : parseFieldDescriptor (T f).2.2.1 = some ty) (hn : narrow ty v = v) (hfit : fits ty v = true) (hl : f < fs.length) (hdg : decode cc pc = .ok (.putfield index, 3))
    (kk : ∀ (H : Heap) (locs : List Loc), YH D g A s H0 H locs (ws.set k (a, .inr (ci, fs.set f v))) → W p l e R s m args below meth c H locs cells slots Q (F0 m (pc + 3) ls rest)) : W p l e R s m args below meth c H locs cells slots Q (F0 m pc ls (v :: .ref a :: rest)) := by
  obtain ⟨hK, hP, hD, hS, hN⟩ := hw
  exact va_putF hx hb ht hin ty0 hty hnm hown hK hP hD hS k he hc f hf hlink (fun _ h => h) hfin hin2 hdecl hd hn hfit hl hdg (fun H1 locs1 hP1 hD1 hS1 => kk H1 locs1 ⟨hK, hP1, hD1, hS1, hN⟩)
set_option maxHeartbeats 400000 in
theorem y_put (hx : p.tables.exec = Jvm.exec) (hb : c.code = cc) (ht : ∀ w ∈ lwg, w.before args s = true) {own C : String} {T : u_T} {N ci index : Nat} (hin : ∀ w ∈ u_ws C T N, w ∈ lwg) (ty0 : Nat → FieldType) (hty : ∀ k, k < N → parseFieldDescriptor (T k).2.2.1 = some (ty0 k)) (hnm : ∀ a, a < N → ∀ b, b < N → a ≠ b → (T a).2.1 ≠ (T b).2.1) (hown : s.vm.findClass own = some m.cls) (hw : YH D g A s H0 H locs ws) (k : Nat) {fs : List Value} (he : ws[k]? = some (a, .inr (ci, fs))) (hc : vwC[ci]? = some (C, T, N)) (f : Nat) (hf : f < N) (hlink : (Cond.fieldLink own index (T f).1 (T f).2.1 (T f).2.2.1).before args s = true) (hfin : (T f).2.2.2 = false) {ty : FieldType} {v : Value} (hd : parseFieldDescriptor (T f).2.2.1 = some ty) (hn : narrow ty v = v) (hfit : fits ty v = true) (hl : f < fs.length) (hdg : decode cc pc = .ok (.putfield index, 3))
    (kk : ∀ (H : Heap) (locs : List Loc), YH D g A s H0 H locs (ws.set k (a, .inr (ci, fs.set f v))) → W p l e R s m args below meth c H locs cells slots Q (F0 m (pc + 3) ls rest)) : W p l e R s m args below meth c H locs cells slots Q (F0 m pc ls (v :: .ref a :: rest)) := by
  obtain ⟨hK, hP, hD, hS, hN⟩ := hw
  exact va_put hx hb ht hin ty0 hty hnm hown hK hP hD hS k he hc f hf hlink (fun _ h => h) hfin hd hn hfit hl hdg (fun H1 locs1 hP1 hD1 hS1 => kk H1 locs1 ⟨hK, hP1, hD1, hS1, hN⟩)
set_option maxHeartbeats 400000 in
theorem y_mna (hx : p.tables.exec = Jvm.exec) (hb : c.code = cc) {own : String} {index : Nat} (hown : s.vm.findClass own = some m.cls) (hclink : (Cond.classLink own index ("[" ++ (FieldType.array .int).toString)).before args s = true) (harr : (Cond.arrayClass .int).before args s = true) (hw : YH D g A s H0 H locs ws) (hA : ∀ q, H0.size ≤ q → A q) {n k : Int32} (N K : Nat) (hn : n = nI N) (hk : k = nI K) (hNb : N ≤ 1000) (hKb : K ≤ 1000) (hcells : cells + (1 + N) ≤ R.cells) (hslots : slots + (N + N * K) ≤ R.slots) (hdg : decode cc pc = .ok (.multianewarray index 2, 4))
    (kk : ∀ (q : Nat) (r : Nat → Nat) (H : Heap), YH D g A s H0 H locs ((ws ++ [outW g q r N]) ++ rowsW g r N K) → W p l e R s m args below meth c H locs (cells + 1 + N) (slots + N + N * K) Q (F0 m (pc + 4) ls (.ref q :: rest))) : W p l e R s m args below meth c H locs cells slots Q (F0 m pc ls (.int k :: .int n :: rest)) := by
  obtain ⟨hK, hP, hD, hS, hN⟩ := hw
  subst hn
  subst hk
  have hb1 : N * 4 ≤ 536870912 := by omega
  have hb2 : K * componentBytes .int ≤ 536870912 := by rw [show componentBytes FieldType.int = 4 from rfl]; omega
  have hcy : s.vm.findClass (FieldType.array .int).toString = some g.1 := (hK.2 0 (g.1, .int) rfl).2
  have hP' : va_P D vwC (ws ++ va_pl [] (fun _ => .inr (0, []))) H := by rw [show va_pl [] (fun _ => (Sum.inr (0, []) : va_E)) = [] from rfl, List.append_nil]; exact hP
  have hD' : va_D A (ws ++ va_pl [] (fun _ => .inr (0, []))) := by rw [show va_pl [] (fun _ => (Sum.inr (0, []) : va_E)) = [] from rfl, List.append_nil]; exact hD
  refine va_mna (N' := N) (K' := K) (cy := g.1) (z := (K, .inl (fun _ => 0))) (ty := .int) hx hb hown hclink hN.2.2.2.2.2.2 harr hcy hK hP' hD' hS hA (nI_pos (by omega)) (nI_pos (by omega)) (nI_clamp (by omega)) (nI_clamp (by omega)) hb1 hb2 (by omega) rfl rfl hcells hslots (fun c9 => ?_) hdg (fun q r cA H1 _ _ hK1 hP1 hD1 hS1 => ?_)
  · show ({ cls := c9, slots := Array.replicate K (defaultValue .int), vm := .none } : Cell) = _
    rw [arrV_new]
    rfl
  · have e := ty_eq 3 hK1 rfl (fun _ h => by cases h)
    subst e
    rw [List.nil_append, pl_up, List.map_map] at hP1 hD1
    exact kk q r H1 ⟨hK, hP1, hD1, hS1, hN⟩
set_option maxHeartbeats 400000 in
theorem y_newT (hx : p.tables.exec = Jvm.exec) (hb : c.code = cc) {own : String} {index : Nat} (hown : s.vm.findClass own = some m.cls) (hclink : (Cond.classLink own index "LearnedRanker$Tree").before args s = true) (hw : YH D g A s H0 H locs ws) (hA : ∀ q, H0.size ≤ q → A q) {n : Int32} (N : Nat) (hn : n = nI N) (hNb : N ≤ 1000) (hcells : cells + 1 ≤ R.cells) (hslots : slots + N ≤ R.slots) (hdg : decode cc pc = .ok (.anewarray index, 3))
    (kk : ∀ (q : Nat) (H : Heap), YH D g A s H0 H locs (ws ++ [(q, .inl (g.2.2.2.2, N, .inr (.inr (.inr (.inr (fun _ => none))))))]) → W p l e R s m args below meth c H locs (cells + 1) (slots + N) Q (F0 m (pc + 3) ls (.ref q :: rest))) : W p l e R s m args below meth c H locs cells slots Q (F0 m pc ls (.int n :: rest)) := by
  obtain ⟨hK, hP, hD, hS, hN⟩ := hw
  subst hn
  refine va_newq (N' := N) hx hb hown hclink hN.2.2.2.2.2.1 hK hP hD hS hA (nI_pos (by omega)) (nI_clamp (by omega)) (by omega) hcells hslots hdg (fun q cA H1 hK1 hP1 hD1 hS1 => ?_)
  have e := ty_eqO 4 hK1 rfl
  subst e
  exact kk q H1 ⟨hK, hP1, hD1, hS1, hN⟩
set_option maxHeartbeats 400000 in
theorem y_astT (hx : p.tables.exec = Jvm.exec) (hb : c.code = cc) (hw : YH D g A s H0 H locs ws) (k qk : Nat) {v n i : Nat} {vs : List Value} {f : Nat → Option Nat} (he : ws[k]? = some (a, .inl (g.2.2.2.2, n, .inr (.inr (.inr (.inr f)))))) (hv : ws[qk]? = some (v, .inr (5, vs))) {x : Int32} (hi : x = nI i) (hin : i < n) (hnb : n ≤ 1000) (hdg : decode cc pc = .ok (.aastore, 1))
    (kk : ∀ (H : Heap) (locs : List Loc), YH D g A s H0 H locs (ws.set k (a, .inl (g.2.2.2.2, n, .inr (.inr (.inr (.inr (va_up f i (some v)))))))) → W p l e R s m args below meth c H locs cells slots Q (F0 m (pc + 1) ls rest)) : W p l e R s m args below meth c H locs cells slots Q (F0 m pc ls (.ref v :: .int x :: .ref a :: rest)) := by
  obtain ⟨hK, hP, hD, hS, hN⟩ := hw
  subst hi
  refine va_astq (r := (R_Tr, F_Tr, 3)) hx hb hK hP hD hS k 4 qk 5 he rfl hv rfl (vp_in_nI hin (by omega)) hdg (fun H1 locs1 hP1 hD1 hS1 => ?_)
  rw [nI_clamp (by omega)] at hP1 hD1
  exact kk H1 locs1 ⟨hK, hP1, hD1, hS1, hN⟩
end YR2
