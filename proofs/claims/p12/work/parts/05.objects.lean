def owF (q : Nat) : Nat := [0, 3, 4, 5, 5, 5, 5, 5, 6, 7, 75, 75, 75, 75, 75, 75].getD q 100
def owG (q : Nat) : Nat := [5, 5, 75].getD q 100
theorem xo_S {g : Ids} {ad : Nat → Nat} {u v : St} {j : Nat} (hF : ∀ q, owF q = j → v.2.2.1 q = u.2.2.1 q) (hG : ∀ q, owG q = j → v.2.2.2 q = u.2.2.2 q) : xo g ad v j = xo g ad u j := by
  unfold xo
  by_cases h0 : 59 ≤ j ∧ j < 63
  · rw [if_pos h0, if_pos h0]
  rw [if_neg h0, if_neg h0]
  by_cases h1 : j = 6 ∨ j = 7
  · rw [if_pos h1, if_pos h1]
    rw [hF (j + 2) (by rcases h1 with rfl | rfl <;> rfl)]
  rw [if_neg h1, if_neg h1]
  by_cases h2 : j = 0
  · rw [if_pos h2, if_pos h2]
    rw [hF 0 (by rw [h2]; rfl)]
  rw [if_neg h2, if_neg h2]
  by_cases h3 : j = 1
  · rw [if_pos h3, if_pos h3]
  rw [if_neg h3, if_neg h3]
  by_cases h4 : j = 3
  · rw [if_pos h4, if_pos h4]
    rw [hF 1 (by rw [h4]; rfl)]
  rw [if_neg h4, if_neg h4]
  by_cases h5 : j = 4
  · rw [if_pos h5, if_pos h5]
    rw [hF 2 (by rw [h5]; rfl)]
  rw [if_neg h5, if_neg h5]
  by_cases h6 : j = 5
  · rw [if_pos h6, if_pos h6]
    rw [hF 3 (by rw [h6]; rfl), hF 4 (by rw [h6]; rfl), hF 5 (by rw [h6]; rfl), hF 6 (by rw [h6]; rfl), hF 7 (by rw [h6]; rfl), hG 0 (by rw [h6]; rfl), hG 1 (by rw [h6]; rfl)]
  rw [if_neg h6, if_neg h6]
  by_cases h7 : j = 11
  · rw [if_pos h7, if_pos h7]
  rw [if_neg h7, if_neg h7]
  by_cases h8 : j = 13
  · rw [if_pos h8, if_pos h8]
  rw [if_neg h8, if_neg h8]
  by_cases h9 : j = 14
  · rw [if_pos h9, if_pos h9]
  rw [if_neg h9, if_neg h9]
  by_cases h10 : j = 16
  · rw [if_pos h10, if_pos h10]
  rw [if_neg h10, if_neg h10]
  by_cases h11 : j = 75
  · rw [if_pos h11, if_pos h11]
    rw [hF 10 (by rw [h11]; rfl), hF 11 (by rw [h11]; rfl), hF 12 (by rw [h11]; rfl), hF 13 (by rw [h11]; rfl), hF 14 (by rw [h11]; rfl), hF 15 (by rw [h11]; rfl), hG 2 (by rw [h11]; rfl)]
  rw [if_neg h11, if_neg h11]
theorem xc_S {g : Ids} {ad : Nat → Nat} {u v : St} {j : Nat} (h1 : v.1 = u.1) (h2 : v.2.1 = u.2.1) (hF : ∀ q, owF q = j → v.2.2.1 q = u.2.2.1 q) (hG : ∀ q, owG q = j → v.2.2.2 q = u.2.2.2 q) : xc g ad v j = xc g ad u j := by
  unfold xc
  rw [h1, h2, xo_S hF hG]
theorem xc_sF {g : Ids} {ad : Nat → Nat} {u : St} {q j : Nat} {x : Int32} (h : j ≠ owF q) : xc g ad (sF u q x) j = xc g ad u j :=
  xc_S rfl rfl (fun q' h' => by show upd _ _ _ _ = _; unfold upd; rw [if_neg (fun e => h (by rw [← h', e]))]) (fun _ _ => rfl)
theorem xc_sG {g : Ids} {ad : Nat → Nat} {u : St} {q j : Nat} {x : Int64} (h : j ≠ owG q) : xc g ad (sG u q x) j = xc g ad u j :=
  xc_S rfl rfl (fun _ _ => rfl) (fun q' h' => by show vp_updL _ _ _ _ = _; unfold vp_updL; rw [if_neg (fun e => h (by rw [← h', e]))])
theorem o_X {g : Ids} {ad : Nat → Nat} {u : St} : xc g ad u 0 = .inr (6, [.ref (ad 1), .ref (ad 2), .ref (ad 3), .ref (ad 4), .ref (ad 5), .ref (ad 6), .ref (ad 7), .ref (ad 8), .int (u.2.2.1 0)]) := rfl
theorem o_Sh {g : Ids} {ad : Nat → Nat} {u : St} : xc g ad u 1 = .inr (4, [.ref (ad 9), .ref (ad 10), .ref (ad 11)]) := rfl
theorem o_Ju {g : Ids} {ad : Nat → Nat} {u : St} : xc g ad u 3 = .inr (2, [.ref (ad 12), .int (u.2.2.1 1)]) := rfl
theorem o_Fo {g : Ids} {ad : Nat → Nat} {u : St} : xc g ad u 4 = .inr (0, [.ref (ad 13), .int (u.2.2.1 2)]) := rfl
theorem o_Gr {g : Ids} {ad : Nat → Nat} {u : St} : xc g ad u 5 = .inr (1, [.ref (ad 14), .ref (ad 15), .ref (ad 16), .int (u.2.2.1 3), .ref (ad 17), .int (u.2.2.1 4), .long (u.2.2.2 0), .int (u.2.2.1 5), .long (u.2.2.2 1), .int (u.2.2.1 6), .int (u.2.2.1 7)]) := rfl
theorem o_M {g : Ids} {ad : Nat → Nat} {u : St} : xc g ad u 75 = .inr (7, [.ref (ad 76), .ref (ad 77), .ref (ad 78), .ref (ad 79), .ref (ad 80), .int (u.2.2.1 10), .ref (ad 81), .ref (ad 82), .ref (ad 83), .ref (ad 84), .int (u.2.2.1 11), .ref (ad 85), .ref (ad 86), .ref (ad 87), .int (u.2.2.1 12), .ref (ad 88), .ref (ad 89), .int (u.2.2.1 13), .long (u.2.2.2 2), .int (u.2.2.1 14), .int (u.2.2.1 15)]) := rfl
theorem o_Ra {g : Ids} {ad : Nat → Nat} {u : St} {k : Nat} (h : k = 6 ∨ k = 7) : xc g ad u k = .inr (3, [.ref (ad (2 * k + 6)), .ref (ad (2 * k + 7)), .int (u.2.2.1 (k + 2))]) := by
  rcases h with rfl | rfl <;> rfl
theorem xk_tr : ∀ t, t < 4 → xk (59 + t) = 0 ∧ xk (63 + t) = 1 ∧ xk (67 + t) = 1 ∧ xk (71 + t) = 3 ∧ xn (63 + t) = 7 ∧ xn (67 + t) = 7 ∧ xn (71 + t) = 7 := by decide
theorem xk_cnt : ∀ t, t < 16 → xk (22 + t) = 1 ∧ xn (22 + t) = 12 := by decide
theorem xk_gf : ∀ t, t < 16 → xk (38 + t) = 1 ∧ xn (38 + t) = 5 := by decide
theorem xk_go : ∀ t, t < 5 → xk (54 + t) = 1 ∧ xn (54 + t) = 16 := by decide
theorem o_Tr {g : Ids} {ad : Nat → Nat} {u : St} {t : Nat} (h : t < 4) : xc g ad u (59 + t) = .inr (5, [.ref (ad (63 + t)), .ref (ad (67 + t)), .ref (ad (71 + t))]) := by
  rw [xc_o (xk_tr t h).1]
  unfold xo
  rw [if_pos ⟨by omega, by omega⟩]
  have e1 : 59 + t + 4 = 63 + t := by omega
  have e2 : 59 + t + 8 = 67 + t := by omega
  have e3 : 59 + t + 12 = 71 + t := by omega
  rw [e1, e2, e3]
section XO
variable {p : Program} {l : Launch} {e : Env} {R : Room} {s : State} {m : MethodId} {args : Array Value} {below : List Frame} {meth : Method} {c : Code} {H : Heap} {locs : List Loc} {cells slots : Nat} {Q : State → Prop}
variable {cc : ByteArray} {pc : Nat} {ls : Array Slot} {rest : List Value} {D : va_G} {g : Ids} {ad : Nat → Nat} {A : Nat → Prop} {u : St} {H0 : Heap}
theorem x_get (hx : p.tables.exec = Jvm.exec) (hb : c.code = cc) (ht : ∀ w ∈ lwg, w.before args s = true) {own C : String} {T : u_T} {N ci index : Nat} (hin : ∀ w ∈ u_ws C T N, w ∈ lwg) (hown : s.vm.findClass own = some m.cls) (hw : XH D g ad A s H0 H locs u) {k : Nat} (hk : k < 90) {fs : List Value} (ho : xc g ad u k = .inr (ci, fs)) (hc : vwC[ci]? = some (C, T, N)) (f : Nat) (hf : f < N) (hlink : (Cond.fieldLink own index (T f).1 (T f).2.1 (T f).2.2.1).before args s = true) {v : Value} (hv : fs[f]? = some v) (hdg : decode cc pc = .ok (.getfield index, 3))
    (kk : W p l e R s m args below meth c H locs cells slots Q (F0 m (pc + 3) ls (v :: rest))) : W p l e R s m args below meth c H locs cells slots Q (F0 m pc ls (.ref (ad k) :: rest)) :=
  va_get hx hb ht hin hown hw.1 hw.2.1 k (by rw [wX_get hk, ho]) hc f hf hlink (fun _ h => h) hv hdg kk
theorem x_puti (hx : p.tables.exec = Jvm.exec) (hb : c.code = cc) (ht : ∀ w ∈ lwg, w.before args s = true) {own C : String} {T : u_T} {N ci index : Nat} (hin : ∀ w ∈ u_ws C T N, w ∈ lwg) (ty0 : Nat → FieldType) (hty : ∀ k, k < N → parseFieldDescriptor (T k).2.2.1 = some (ty0 k)) (hnm : ∀ a, a < N → ∀ b, b < N → a ≠ b → (T a).2.1 ≠ (T b).2.1) (hown : s.vm.findClass own = some m.cls) (hw : XH D g ad A s H0 H locs u) {k : Nat} (hk : k < 90) {fs : List Value} (ho : xc g ad u k = .inr (ci, fs)) (hc : vwC[ci]? = some (C, T, N)) (f q : Nat) (hf : f < N) (hlink : (Cond.fieldLink own index (T f).1 (T f).2.1 (T f).2.2.1).before args s = true) (hfin : (T f).2.2.2 = false) (hd : parseFieldDescriptor (T f).2.2.1 = some .int) (hl : f < fs.length) {x : Int32} (hq : owF q = k) (hset : xc g ad (sF u q x) k = .inr (ci, fs.set f (.int x))) (hdg : decode cc pc = .ok (.putfield index, 3))
    (kk : ∀ (H1 : Heap) (locs1 : List Loc), XH D g ad A s H0 H1 locs1 (sF u q x) → W p l e R s m args below meth c H1 locs1 cells slots Q (F0 m (pc + 3) ls rest)) : W p l e R s m args below meth c H locs cells slots Q (F0 m pc ls (.int x :: .ref (ad k) :: rest)) := by
  obtain ⟨hK, hP, hD, hS, hN⟩ := hw
  refine va_put (v := .int x) (ty := .int) hx hb ht hin ty0 hty hnm hown hK hP hD hS k (by rw [wX_get hk, ho]) hc f hf hlink (fun _ h => h) hfin hd rfl rfl hl hdg (fun H1 locs1 hP1 hD1 hS1 => ?_)
  rw [wX_set (v := sF u q x) hset (fun j hj => xc_sF (by rw [hq]; exact hj))] at hP1 hD1
  exact kk H1 locs1 ⟨hK, hP1, hD1, hS1, hN⟩
theorem x_putl (hx : p.tables.exec = Jvm.exec) (hb : c.code = cc) (ht : ∀ w ∈ lwg, w.before args s = true) {own C : String} {T : u_T} {N ci index : Nat} (hin : ∀ w ∈ u_ws C T N, w ∈ lwg) (ty0 : Nat → FieldType) (hty : ∀ k, k < N → parseFieldDescriptor (T k).2.2.1 = some (ty0 k)) (hnm : ∀ a, a < N → ∀ b, b < N → a ≠ b → (T a).2.1 ≠ (T b).2.1) (hown : s.vm.findClass own = some m.cls) (hw : XH D g ad A s H0 H locs u) {k : Nat} (hk : k < 90) {fs : List Value} (ho : xc g ad u k = .inr (ci, fs)) (hc : vwC[ci]? = some (C, T, N)) (f q : Nat) (hf : f < N) (hlink : (Cond.fieldLink own index (T f).1 (T f).2.1 (T f).2.2.1).before args s = true) (hfin : (T f).2.2.2 = false) (hd : parseFieldDescriptor (T f).2.2.1 = some .long) (hl : f < fs.length) {x : Int64} (hq : owG q = k) (hset : xc g ad (sG u q x) k = .inr (ci, fs.set f (.long x))) (hdg : decode cc pc = .ok (.putfield index, 3))
    (kk : ∀ (H1 : Heap) (locs1 : List Loc), XH D g ad A s H0 H1 locs1 (sG u q x) → W p l e R s m args below meth c H1 locs1 cells slots Q (F0 m (pc + 3) ls rest)) : W p l e R s m args below meth c H locs cells slots Q (F0 m pc ls (.long x :: .ref (ad k) :: rest)) := by
  obtain ⟨hK, hP, hD, hS, hN⟩ := hw
  refine va_put (v := .long x) (ty := .long) hx hb ht hin ty0 hty hnm hown hK hP hD hS k (by rw [wX_get hk, ho]) hc f hf hlink (fun _ h => h) hfin hd rfl rfl hl hdg (fun H1 locs1 hP1 hD1 hS1 => ?_)
  rw [wX_set (v := sG u q x) hset (fun j hj => xc_sG (by rw [hq]; exact hj))] at hP1 hD1
  exact kk H1 locs1 ⟨hK, hP1, hD1, hS1, hN⟩
end XO
