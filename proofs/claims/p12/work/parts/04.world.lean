/-! The world of class and reference together: 90 cells at addresses ad 0 .. ad 89; a state u = (int arrays by cell and place, long arrays, int fields, long fields). -/
abbrev St : Type := (Nat → Nat → Int32) × (Nat → Nat → Int64) × (Nat → Int32) × (Nat → Int64)
abbrev Ids : Type := ClassId × ClassId × ClassId × ClassId × ClassId
/-- a cell's kind: 0 an object or an array of references, 1 int[], 2 boolean[], 3 long[] -/
def xkT : List Nat := [0, 0, 1, 0, 0, 0, 0, 0, 1, 2, 1, 0, 1, 0, 0, 3, 0, 1, 1, 3, 1, 3] ++ List.replicate 16 1 ++ List.replicate 16 1 ++ List.replicate 5 1 ++ List.replicate 4 0 ++ List.replicate 4 1 ++ List.replicate 4 1 ++ List.replicate 4 3 ++ [0, 2, 1, 1, 1, 1, 1, 1, 1, 3, 1, 1, 3, 1, 1]
def xnT : List Nat := [0, 0, 8, 0, 0, 0, 0, 0, 5, 16, 16, 16, 128, 4, 16, 16, 5, 16, 16, 16, 16, 16] ++ List.replicate 16 12 ++ List.replicate 16 5 ++ List.replicate 5 16 ++ List.replicate 4 0 ++ List.replicate 4 7 ++ List.replicate 4 7 ++ List.replicate 4 7 ++ [0, 16, 16, 192, 8, 128, 28, 28, 28, 28, 80, 16, 16, 16, 16]
def xk (k : Nat) : Nat := xkT.getD k 0
def xn (k : Nat) : Nat := xnT.getD k 0
/-- an array of references: to the cells from b on -/
def xr (ad : Nat → Nat) (b n : Nat) : Nat → Option Nat := fun j => if j < n then some (ad (b + j)) else none
/-- objects and arrays of references -/
def xo (g : Ids) (ad : Nat → Nat) (u : St) (k : Nat) : va_E :=
  if 59 ≤ k ∧ k < 63 then .inr (5, [.ref (ad (k + 4)), .ref (ad (k + 8)), .ref (ad (k + 12))]) else
  if k = 6 ∨ k = 7 then .inr (3, [.ref (ad (2 * k + 6)), .ref (ad (2 * k + 7)), .int (u.2.2.1 (k + 2))]) else
  if k = 0 then .inr (6, [.ref (ad 1), .ref (ad 2), .ref (ad 3), .ref (ad 4), .ref (ad 5), .ref (ad 6), .ref (ad 7), .ref (ad 8), .int (u.2.2.1 0)]) else
  if k = 1 then .inr (4, [.ref (ad 9), .ref (ad 10), .ref (ad 11)]) else
  if k = 3 then .inr (2, [.ref (ad 12), .int (u.2.2.1 1)]) else
  if k = 4 then .inr (0, [.ref (ad 13), .int (u.2.2.1 2)]) else
  if k = 5 then .inr (1, [.ref (ad 14), .ref (ad 15), .ref (ad 16), .int (u.2.2.1 3), .ref (ad 17), .int (u.2.2.1 4), .long (u.2.2.2 0), .int (u.2.2.1 5), .long (u.2.2.2 1), .int (u.2.2.1 6), .int (u.2.2.1 7)]) else
  if k = 11 then .inl (g.2.2.2.1, 16, .inr (.inr (.inr (.inr (xr ad 22 16))))) else
  if k = 13 then .inl (g.2.2.2.2, 4, .inr (.inr (.inr (.inr (xr ad 59 4))))) else
  if k = 14 then .inl (g.2.2.2.1, 16, .inr (.inr (.inr (.inr (xr ad 38 16))))) else
  if k = 16 then .inl (g.2.2.2.1, 5, .inr (.inr (.inr (.inr (xr ad 54 5))))) else
  if k = 75 then .inr (7, [.ref (ad 76), .ref (ad 77), .ref (ad 78), .ref (ad 79), .ref (ad 80), .int (u.2.2.1 10), .ref (ad 81), .ref (ad 82), .ref (ad 83), .ref (ad 84), .int (u.2.2.1 11), .ref (ad 85), .ref (ad 86), .ref (ad 87), .int (u.2.2.1 12), .ref (ad 88), .ref (ad 89), .int (u.2.2.1 13), .long (u.2.2.2 2), .int (u.2.2.1 14), .int (u.2.2.1 15)]) else .inr (7, [])
def xc (g : Ids) (ad : Nat → Nat) (u : St) (k : Nat) : va_E :=
  if xk k = 1 then .inl (g.1, xn k, .inl (u.1 k)) else if xk k = 2 then .inl (g.2.1, xn k, .inl (u.1 k)) else if xk k = 3 then .inl (g.2.2.1, xn k, .inr (.inl (u.2.1 k))) else xo g ad u k
def wX (g : Ids) (ad : Nat → Nat) (u : St) : va_W := (List.range 90).map (fun k => (ad k, xc g ad u k))
def xty (g : Ids) : List (ClassId × FieldType) := [(g.1, .int), (g.2.1, .boolean), (g.2.2.1, .long), (g.2.2.2.1, .array .int), (g.2.2.2.2, .object "LearnedRanker$Tree")]
def AX (ad : Nat → Nat) (sz : Nat) : Nat → Prop := fun q => (∃ k, k < 90 ∧ q = ad k) ∨ sz ≤ q
def sI (u : St) (k j : Nat) (x : Int32) : St := (fun k' => if k' = k then upd (u.1 k) j x else u.1 k', u.2)
def sL (u : St) (k j : Nat) (x : Int64) : St := (u.1, fun k' => if k' = k then vp_updL (u.2.1 k) j x else u.2.1 k', u.2.2)
def sF (u : St) (k : Nat) (x : Int32) : St := (u.1, u.2.1, upd u.2.2.1 k x, u.2.2.2)
def sG (u : St) (k : Nat) (x : Int64) : St := (u.1, u.2.1, u.2.2.1, vp_updL u.2.2.2 k x)
theorem wX_get {g : Ids} {ad : Nat → Nat} {u : St} {k : Nat} (hk : k < 90) : (wX g ad u)[k]? = some (ad k, xc g ad u k) := by
  unfold wX
  rw [List.getElem?_map, List.getElem?_range hk]
  rfl
theorem wX_set {g : Ids} {ad : Nat → Nat} {u v : St} {k : Nat} {e : va_E} (h1 : xc g ad v k = e) (h2 : ∀ j, j ≠ k → xc g ad v j = xc g ad u j) : (wX g ad u).set k (ad k, e) = wX g ad v := by
  apply List.ext_getElem?
  intro j
  rw [List.getElem?_set]
  by_cases hj : k = j
  · subst hj
    by_cases h9 : k < 90
    · rw [wX_get (u := v) h9, h1]
      simp [wX, h9]
    · have e1 : (wX g ad v)[k]? = none := List.getElem?_eq_none (by simp [wX]; omega)
      rw [e1]
      simp [wX, h9]
  · rw [if_neg hj]
    by_cases h9 : j < 90
    · rw [wX_get h9, wX_get h9, h2 j (fun q => hj q.symm)]
    · have e1 : (wX g ad v)[j]? = none := List.getElem?_eq_none (by simp [wX]; omega)
      have e2 : (wX g ad u)[j]? = none := List.getElem?_eq_none (by simp [wX]; omega)
      rw [e1, e2]
theorem xc_i {g : Ids} {ad : Nat → Nat} {u : St} {k : Nat} (h : xk k = 1) : xc g ad u k = .inl (g.1, xn k, .inl (u.1 k)) := if_pos h
theorem xc_z {g : Ids} {ad : Nat → Nat} {u : St} {k : Nat} (h : xk k = 2) : xc g ad u k = .inl (g.2.1, xn k, .inl (u.1 k)) := by
  unfold xc
  rw [if_neg (by omega), if_pos h]
theorem xc_l {g : Ids} {ad : Nat → Nat} {u : St} {k : Nat} (h : xk k = 3) : xc g ad u k = .inl (g.2.2.1, xn k, .inr (.inl (u.2.1 k))) := by
  unfold xc
  rw [if_neg (by omega), if_neg (by omega), if_pos h]
theorem xc_o {g : Ids} {ad : Nat → Nat} {u : St} {k : Nat} (h : xk k = 0) : xc g ad u k = xo g ad u k := by
  unfold xc
  rw [if_neg (by omega), if_neg (by omega), if_neg (by omega)]
theorem xo_sI {g : Ids} {ad : Nat → Nat} {u : St} {k i j : Nat} {x : Int32} : xo g ad (sI u k i x) j = xo g ad u j := rfl
theorem xo_sL {g : Ids} {ad : Nat → Nat} {u : St} {k i j : Nat} {x : Int64} : xo g ad (sL u k i x) j = xo g ad u j := rfl
theorem sI_ne {u : St} {k i j : Nat} {x : Int32} (h : j ≠ k) : (sI u k i x).1 j = u.1 j := if_neg h
theorem sI_eq {u : St} {k i : Nat} {x : Int32} : (sI u k i x).1 k = upd (u.1 k) i x := if_pos rfl
theorem sL_ne {u : St} {k i j : Nat} {x : Int64} (h : j ≠ k) : (sL u k i x).2.1 j = u.2.1 j := if_neg h
theorem sL_eq {u : St} {k i : Nat} {x : Int64} : (sL u k i x).2.1 k = vp_updL (u.2.1 k) i x := if_pos rfl
theorem xc_sI {g : Ids} {ad : Nat → Nat} {u : St} {k i j : Nat} {x : Int32} (h : j ≠ k) : xc g ad (sI u k i x) j = xc g ad u j := by
  unfold xc
  rw [sI_ne h, xo_sI]
  rfl
theorem xc_sL {g : Ids} {ad : Nat → Nat} {u : St} {k i j : Nat} {x : Int64} (h : j ≠ k) : xc g ad (sL u k i x) j = xc g ad u j := by
  unfold xc
  rw [sL_ne h, xo_sL]
  rfl
/-- what holds at every point of a walk: the tables, the cells, apart, and nothing else has changed -/
def XN (s : State) : Prop := va_Nw (.methodLinkNest "LearnedRanker$Shelf" 24 y_X_within "LearnedRanker") s
def XH (D : va_G) (g : Ids) (ad : Nat → Nat) (A : Nat → Prop) (s : State) (H0 H : Heap) (locs : List Loc) (u : St) : Prop := va_K D vwC (xty g) s ∧ va_P D vwC (wX g ad u) H ∧ va_D A (wX g ad u) ∧ va_S A H0 H locs ∧ XN s
section XR
variable {p : Program} {l : Launch} {e : Env} {R : Room} {s : State} {m : MethodId} {args : Array Value} {below : List Frame} {meth : Method} {c : Code} {H : Heap} {locs : List Loc} {cells slots : Nat} {Q : State → Prop}
variable {cc : ByteArray} {pc : Nat} {ls : Array Slot} {rest : List Value} {D : va_G} {g : Ids} {ad : Nat → Nat} {A : Nat → Prop} {u : St} {H0 : Heap}
theorem x_iald (hx : p.tables.exec = Jvm.exec) (hb : c.code = cc) (hw : XH D g ad A s H0 H locs u) {k : Nat} (hk : k < 90) (h1 : xk k = 1) {i : Int32} (hin : vp_in i (xn k)) (hdg : decode cc pc = .ok (.iaload, 1))
    (kk : W p l e R s m args below meth c H locs cells slots Q (F0 m (pc + 1) ls (.int (u.1 k i.toNatClampNeg) :: rest))) : W p l e R s m args below meth c H locs cells slots Q (F0 m pc ls (.int i :: .ref (ad k) :: rest)) :=
  va_iald hx hb hw.1 hw.2.1 k 0 (by rw [wX_get hk, xc_i h1]) rfl hin hdg kk
theorem x_zald (hx : p.tables.exec = Jvm.exec) (hb : c.code = cc) (hw : XH D g ad A s H0 H locs u) {k : Nat} (hk : k < 90) (h1 : xk k = 2) {i : Int32} (hin : vp_in i (xn k)) (hdg : decode cc pc = .ok (.baload, 1))
    (kk : W p l e R s m args below meth c H locs cells slots Q (F0 m (pc + 1) ls (.int (u.1 k i.toNatClampNeg) :: rest))) : W p l e R s m args below meth c H locs cells slots Q (F0 m pc ls (.int i :: .ref (ad k) :: rest)) :=
  va_zald hx hb hw.1 hw.2.1 k 1 (by rw [wX_get hk, xc_z h1]) rfl hin hdg kk
theorem x_lald (hx : p.tables.exec = Jvm.exec) (hb : c.code = cc) (hw : XH D g ad A s H0 H locs u) {k : Nat} (hk : k < 90) (h1 : xk k = 3) {i : Int32} (hin : vp_in i (xn k)) (hdg : decode cc pc = .ok (.laload, 1))
    (kk : W p l e R s m args below meth c H locs cells slots Q (F0 m (pc + 1) ls (.long (u.2.1 k i.toNatClampNeg) :: rest))) : W p l e R s m args below meth c H locs cells slots Q (F0 m pc ls (.int i :: .ref (ad k) :: rest)) :=
  va_lald hx hb hw.1 hw.2.1 k 2 (by rw [wX_get hk, xc_l h1]) rfl hin hdg kk
theorem x_iast (hx : p.tables.exec = Jvm.exec) (hb : c.code = cc) (hw : XH D g ad A s H0 H locs u) {k : Nat} (hk : k < 90) (h1 : xk k = 1) {i x : Int32} (hin : vp_in i (xn k)) (hdg : decode cc pc = .ok (.iastore, 1))
    (kk : ∀ (H1 : Heap) (locs1 : List Loc), XH D g ad A s H0 H1 locs1 (sI u k i.toNatClampNeg x) → W p l e R s m args below meth c H1 locs1 cells slots Q (F0 m (pc + 1) ls rest)) : W p l e R s m args below meth c H locs cells slots Q (F0 m pc ls (.int x :: .int i :: .ref (ad k) :: rest)) := by
  obtain ⟨hK, hP, hD, hS, hN⟩ := hw
  refine va_iast hx hb hK hP hD hS k 0 (by rw [wX_get hk, xc_i h1]) rfl hin hdg (fun H1 locs1 hP1 hD1 hS1 => ?_)
  rw [wX_set (v := sI u k i.toNatClampNeg x) (by rw [xc_i h1, sI_eq]) (fun j hj => xc_sI hj)] at hP1 hD1
  exact kk H1 locs1 ⟨hK, hP1, hD1, hS1, hN⟩
theorem x_zast (hx : p.tables.exec = Jvm.exec) (hb : c.code = cc) (hw : XH D g ad A s H0 H locs u) {k : Nat} (hk : k < 90) (h1 : xk k = 2) {i x : Int32} (hin : vp_in i (xn k)) (hdg : decode cc pc = .ok (.bastore, 1))
    (kk : ∀ (H1 : Heap) (locs1 : List Loc), XH D g ad A s H0 H1 locs1 (sI u k i.toNatClampNeg (vp_nar .boolean x)) → W p l e R s m args below meth c H1 locs1 cells slots Q (F0 m (pc + 1) ls rest)) : W p l e R s m args below meth c H locs cells slots Q (F0 m pc ls (.int x :: .int i :: .ref (ad k) :: rest)) := by
  obtain ⟨hK, hP, hD, hS, hN⟩ := hw
  refine va_zast hx hb hK hP hD hS k 1 (by rw [wX_get hk, xc_z h1]) rfl hin hdg (fun H1 locs1 hP1 hD1 hS1 => ?_)
  rw [wX_set (v := sI u k i.toNatClampNeg (vp_nar .boolean x)) (by rw [xc_z h1, sI_eq]) (fun j hj => xc_sI hj)] at hP1 hD1
  exact kk H1 locs1 ⟨hK, hP1, hD1, hS1, hN⟩
theorem x_last (hx : p.tables.exec = Jvm.exec) (hb : c.code = cc) (hw : XH D g ad A s H0 H locs u) {k : Nat} (hk : k < 90) (h1 : xk k = 3) {i : Int32} {x : Int64} (hin : vp_in i (xn k)) (hdg : decode cc pc = .ok (.lastore, 1))
    (kk : ∀ (H1 : Heap) (locs1 : List Loc), XH D g ad A s H0 H1 locs1 (sL u k i.toNatClampNeg x) → W p l e R s m args below meth c H1 locs1 cells slots Q (F0 m (pc + 1) ls rest)) : W p l e R s m args below meth c H locs cells slots Q (F0 m pc ls (.long x :: .int i :: .ref (ad k) :: rest)) := by
  obtain ⟨hK, hP, hD, hS, hN⟩ := hw
  refine va_last hx hb hK hP hD hS k 2 (by rw [wX_get hk, xc_l h1]) rfl hin hdg (fun H1 locs1 hP1 hD1 hS1 => ?_)
  rw [wX_set (v := sL u k i.toNatClampNeg x) (by rw [xc_l h1, sL_eq]) (fun j hj => xc_sL hj)] at hP1 hD1
  exact kk H1 locs1 ⟨hK, hP1, hD1, hS1, hN⟩
/-- a row of an array of references -/
theorem x_aald (hx : p.tables.exec = Jvm.exec) (hb : c.code = cc) (hw : XH D g ad A s H0 H locs u) {k b n t0 : Nat} {cA : ClassId} {ty : FieldType} (hk : k < 90) (h1 : ∀ u, xc g ad u k = .inl (cA, n, .inr (.inr (.inr (.inr (xr ad b n)))))) (ht : (xty g)[t0]? = some (cA, ty)) (hty : ty.isReference = true) {i : Int32} (hin : vp_in i n) (hdg : decode cc pc = .ok (.aaload, 1))
    (kk : W p l e R s m args below meth c H locs cells slots Q (F0 m (pc + 1) ls (.ref (ad (b + i.toNatClampNeg)) :: rest))) : W p l e R s m args below meth c H locs cells slots Q (F0 m pc ls (.int i :: .ref (ad k) :: rest)) := by
  have hlt : i.toNatClampNeg < n := Nat.not_le.mp fun q => hin (Or.inr q)
  have hcell : va_at D vwC (ad k, .inl (cA, n, .inr (.inr (.inr (.inr (xr ad b n)))))) H := by
    have := hw.2.1 k _ (wX_get hk)
    rw [h1 u] at this
    exact this
  refine W.aald (v := .ref (ad (b + i.toNatClampNeg))) (ty := ty) hx hb hcell ((hw.1.2 t0 _ ht).1 n (fun j => va_rf (xr ad b n j))) hty (fun q => by cases q) (by show ¬ (i < 0 ∨ (arrV _ _ _).slots.size ≤ _); rw [arrV_size]; exact hin) ?_ rfl rfl hdg kk
  show (arrV _ _ _).slots[_]? = _
  rw [arrV_read _ _ hlt]
  simp [xr, hlt, va_rf]
end XR
