theorem good_w {w : Cond} (h : w ∈ lwg) : goodWord w = true := (List.mem_filter.mp h).2
abbrev wsy (y : MethodName) (b : ByteArray) (n : Nat) (r : Option FieldType) : List Cond := .code y b n r :: lwg
theorem good_y {y : MethodName} {b : ByteArray} {n : Nat} {r : Option FieldType} (h : Cond.code y b n r ∈ lwg) : GoodIn lwg (wsy y b n r) := fun w hw => by
  rcases List.mem_cons.mp hw with rfl | hw
  · exact ⟨h, good_of_word (good_w h)⟩
  · exact ⟨hw, good_of_word (good_w hw)⟩
abbrev rmN (f k : Nat) : Room := { frames := f, cells := 0, slots := 0, locals := k }
def XP (D : va_G) (g : Ids) (ad : Nat → Nat) (sz : Nat) (As : List Value) (u : St) : Array Value → State → Prop := va_Pc As (fun U => U.heap.size = sz ∧ XN U ∧ va_K D vwC (xty g) U ∧ va_P D vwC (wX g ad u) U.heap ∧ va_D (fun _ => True) (wX g ad u))
def XB (D : va_G) (g : Ids) (ad : Nat → Nat) (sz : Nat) (u : St) (t : State) : Prop := va_K D vwC (xty g) t ∧ va_P D vwC (wX g ad u) t.heap ∧ va_D (AX ad sz) (wX g ad u)
def XBr (D : va_G) (g : Ids) (ad : Nat → Nat) (sz : Nat) (u : St × Nat) (a : Nat) (t : State) : Prop := a = ad u.2 ∧ XB D g ad sz u.1 t
/-- contracts: an int (a boolean), a long, nothing, a cell of the world -/
def XMi (l : Launch) (D : va_G) (g : Ids) (ad : Nat → Nat) (y : MethodName) (b : ByteArray) (n : Nat) (r : Option FieldType) (rm : Room) (As : List Value) (u : St) (post : Int32 → St → Prop) : Prop := ∀ sz, Met l y (wsy y b n r) rm (XP D g ad sz As u) (va_Qi post (XB D g ad sz) (AX ad sz)) 0 0 (AX ad sz)
def XMl (l : Launch) (D : va_G) (g : Ids) (ad : Nat → Nat) (y : MethodName) (b : ByteArray) (n : Nat) (r : Option FieldType) (rm : Room) (As : List Value) (u : St) (post : Int64 → St → Prop) : Prop := ∀ sz, Met l y (wsy y b n r) rm (XP D g ad sz As u) (va_Ql post (XB D g ad sz) (AX ad sz)) 0 0 (AX ad sz)
def XMv (l : Launch) (D : va_G) (g : Ids) (ad : Nat → Nat) (y : MethodName) (b : ByteArray) (n : Nat) (r : Option FieldType) (rm : Room) (As : List Value) (u : St) (post : St → Prop) : Prop := ∀ sz, Met l y (wsy y b n r) rm (XP D g ad sz As u) (va_Qv post (XB D g ad sz) (AX ad sz)) 0 0 (AX ad sz)
def XMr (l : Launch) (D : va_G) (g : Ids) (ad : Nat → Nat) (y : MethodName) (b : ByteArray) (n : Nat) (r : Option FieldType) (rm : Room) (As : List Value) (u : St) (post : St × Nat → Prop) : Prop := ∀ sz, Met l y (wsy y b n r) rm (XP D g ad sz As u) (va_Qr post (XBr D g ad sz) (AX ad sz)) 0 0 (AX ad sz)
theorem XP_blind {D : va_G} {g : Ids} {ad : Nat → Nat} {sz : Nat} {As : List Value} {u : St} : FrameBlind (XP D g ad sz As u) := fun a U gg mk q => by
  obtain ⟨q0, q1, qN, qK, qP, qD⟩ := q
  exact ⟨q0, q1, va_Nw.same (U := U.calling gg mk a) rfl rfl qN, va_K.moved (u := U) (U := U.calling gg mk a) (Vm.Alike.refl U.vm) qK, qP, qD⟩
theorem wX_in {g : Ids} {ad : Nat → Nat} {u : St} {k : Nat} {q : Nat × va_E} (h : (wX g ad u)[k]? = some q) : k < 90 ∧ q.1 = ad k := by
  have hk : k < 90 := by
    have := (List.getElem?_eq_some_iff.mp h).1
    simpa [wX] using this
  rw [wX_get hk] at h
  cases h
  exact ⟨hk, rfl⟩
section XC
variable {p : Program} {l : Launch} {e : Env} {R : Room} {s : State} {m : MethodId} {args : Array Value} {below : List Frame} {meth : Method} {c : Code} {H : Heap} {locs : List Loc} {cells slots : Nat} {Q : State → Prop}
variable {cc : ByteArray} {pc : Nat} {ls : Array Slot} {rest : List Value} {D : va_G} {g : Ids} {ad : Nat → Nat} {A : Nat → Prop} {u : St} {H0 : Heap}
theorem x_met {y : MethodName} {b : ByteArray} {n : Nat} {r : Option FieldType} {rm : Room} {As : List Value} {Qc : Array Value → State → Outcome → State → Prop} {sz : Nat} (hy : plainName y.cls = true) (hn : (lg_sl As).length ≤ n)
    (body : ∀ (p : Program) (e : Env) (s : State) (m : MethodId) (below : List Frame) (meth : Method) (c : Code), s.heap.size = sz → p.tables.exec = Jvm.exec → c.code = b → meth.sig.returnType = r → c.maxLocals = n → s.vm.findClass y.cls = some m.cls → (∀ w ∈ lwg, w.before As.toArray s = true) → meth.locks = false → XH D g ad (AX ad sz) s s.heap s.heap [] u → ∀ ls : Array Slot, lv_has ls n (lv_args 0 As) → W p l e rm s m As.toArray below meth c s.heap [] 0 0 (MQ below Qc As.toArray s 0 0 (AX ad sz)) (F0 m 0 ls [])) :
    Met l y (wsy y b n r) rm (XP D g ad sz As u) Qc 0 0 (AX ad sz) := by
  refine Met.ofW (cc := b) (maxL := n) (ret := r) hy rfl ?_
  intro p e s m args below meth c s₁ B hml hv
  obtain ⟨rfl, hsz, hN, hK, hP, hD⟩ := hv
  have hts := atoms_spec (ws := wsy y b n r) B.pre
  have hl := lv_entry As (n := n) hn
  rw [lg_entry_eq]
  generalize (lg_sl As ++ List.replicate (n - (lg_sl As).length) Slot.unset).toArray = ls at hl ⊢
  exact body p e s m below meth c hsz B.exec B.bytes B.returns hml (findClass_of_methodNamed B.named) (fun w h => hts w (List.mem_cons_of_mem _ h)) B.notSynchronized ⟨hK, hP, hD.weaken (fun k q hk _ => Or.inl ⟨k, wX_in hk⟩), va_S.rf, hN⟩ ls hl
theorem x_iret {sz : Nat} {post : Int32 → St → Prop} (hsz : s.heap.size = sz) (hx : p.tables.exec = Jvm.exec) (hb : c.code = cc) (hr : meth.sig.returnType = some .int) (hlk : meth.locks = false) (hw : XH D g ad (AX ad sz) s s.heap H locs u) {v : Int32} (hp : post v u) (hdg : decode cc pc = .ok (.ireturn, 1)) :
    W p l e R s m args below meth c H locs cells slots (MQ below (va_Qi post (XB D g ad sz) (AX ad sz)) args s cells slots (AX ad sz)) (F0 m pc ls [.int v]) :=
  W.iret hx hb hr (fun t ht hW => ⟨⟨v, u, rfl, hp, va_K.moved hW.alike hw.1, by rw [ht]; exact hw.2.1, hw.2.2.1⟩, hw.2.2.2.1.F ht⟩) hw.2.2.2.1.2.2 hdg hlk
theorem x_zret {sz : Nat} {post : Int32 → St → Prop} (hsz : s.heap.size = sz) (hx : p.tables.exec = Jvm.exec) (hb : c.code = cc) (hr : meth.sig.returnType = some .boolean) (hlk : meth.locks = false) (hw : XH D g ad (AX ad sz) s s.heap H locs u) {v : Int32} (hn : narrow .boolean (.int v) = .int v) (hp : post v u) (hdg : decode cc pc = .ok (.ireturn, 1)) :
    W p l e R s m args below meth c H locs cells slots (MQ below (va_Qi post (XB D g ad sz) (AX ad sz)) args s cells slots (AX ad sz)) (F0 m pc ls [.int v]) :=
  W.zret hx hb hr hn (fun t ht hW => ⟨⟨v, u, rfl, hp, va_K.moved hW.alike hw.1, by rw [ht]; exact hw.2.1, hw.2.2.1⟩, hw.2.2.2.1.F ht⟩) hw.2.2.2.1.2.2 hdg hlk
theorem x_lret {sz : Nat} {post : Int64 → St → Prop} (hsz : s.heap.size = sz) (hx : p.tables.exec = Jvm.exec) (hb : c.code = cc) (hr : meth.sig.returnType = some .long) (hlk : meth.locks = false) (hw : XH D g ad (AX ad sz) s s.heap H locs u) {v : Int64} (hp : post v u) (hdg : decode cc pc = .ok (.lreturn, 1)) :
    W p l e R s m args below meth c H locs cells slots (MQ below (va_Ql post (XB D g ad sz) (AX ad sz)) args s cells slots (AX ad sz)) (F0 m pc ls [.long v]) :=
  W.lret hx hb hr (fun t ht hW => ⟨⟨v, u, rfl, hp, va_K.moved hW.alike hw.1, by rw [ht]; exact hw.2.1, hw.2.2.1⟩, hw.2.2.2.1.F ht⟩) hw.2.2.2.1.2.2 hdg hlk
theorem x_vret {sz : Nat} {post : St → Prop} (hsz : s.heap.size = sz) (hx : p.tables.exec = Jvm.exec) (hb : c.code = cc) (hr : meth.sig.returnType = none) (hlk : meth.locks = false) (hw : XH D g ad (AX ad sz) s s.heap H locs u) (hp : post u) (hdg : decode cc pc = .ok (.return_, 1)) :
    W p l e R s m args below meth c H locs cells slots (MQ below (va_Qv post (XB D g ad sz) (AX ad sz)) args s cells slots (AX ad sz)) (F0 m pc ls []) :=
  W.vret hx hb hr (fun t ht hW => ⟨⟨u, rfl, hp, va_K.moved hW.alike hw.1, by rw [ht]; exact hw.2.1, hw.2.2.1⟩, hw.2.2.2.1.F ht⟩) hw.2.2.2.1.2.2 hdg hlk
theorem x_aret {sz k : Nat} {post : St × Nat → Prop} {rt : FieldType} (hsz : s.heap.size = sz) (hx : p.tables.exec = Jvm.exec) (hb : c.code = cc) (hr : meth.sig.returnType = some rt) (hrt : (∃ n, rt = .object n) ∨ ∃ t, rt = .array t) (hlk : meth.locks = false) (hw : XH D g ad (AX ad sz) s s.heap H locs u) (hp : post (u, k)) (hdg : decode cc pc = .ok (.areturn, 1)) :
    W p l e R s m args below meth c H locs cells slots (MQ below (va_Qr post (XBr D g ad sz) (AX ad sz)) args s cells slots (AX ad sz)) (F0 m pc ls [.ref (ad k)]) :=
  W.aret hx hb hr hrt (Or.inr ⟨_, rfl⟩) (fun t ht hW => ⟨⟨(u, k), ad k, rfl, hp, rfl, va_K.moved hW.alike hw.1, by rw [ht]; exact hw.2.1, hw.2.2.1⟩, hw.2.2.2.1.F ht⟩) hw.2.2.2.1.2.2 hdg hlk
/-- calls: what makes one run -/
theorem x_runV {y : MethodName} {b : ByteArray} {n nL na index : Nat} {r : Option FieldType} {rm : Room} {As st : List Value} {Qc : Array Value → State → Outcome → State → Prop} {own C : String} {T : u_T} {N ci k : Nat} {fs : List Value} (S : CallFix p m c cc nL s args lwg own) (hM : Met l y (wsy y b n r) rm (XP D g ad H.size (.ref (ad k) :: As) u) Qc 0 0 (AX ad H.size))
    (w1 : Cond.methodLink own index y ∈ lwg) (w2 : Cond.instanceMethod y ∈ lwg) (w3 : Cond.selects C y y ∈ lwg) (w4 : Cond.initialized C ∈ lwg) (w5 : Cond.code y b n r ∈ lwg) (hd : y.cls = C ∧ y.cls ≠ "java/lang/invoke/MethodHandle" ∧ y.cls ≠ "java/lang/invoke/VarHandle" ∧ (parseMethodDescriptor y.desc).map (fun d => d.parameters.length) = some na) (hrm : rm.cells = 0 ∧ rm.slots = 0 ∧ rm.frames + 1 ≤ R.frames ∧ 8 + (n + 11) + rm.locals ≤ R.locals)
    (hw : XH D g ad A s H0 H locs u) (hk : k < 90) (ho : xc g ad u k = .inr (ci, fs)) (hc : vwC[ci]? = some (C, T, N)) (hn : As.length = na) (hls : ls.size = nL) (hst : st = As.reverse ++ .ref (ad k) :: rest) (h8 : (rest.map fun v => v.category).sum ≤ 8) (hdg : decode cc pc = .ok (.invokevirtual index, 3)) (hf : cells ≤ R.cells ∧ slots ≤ R.slots) :
    va_Run p l e R s m args below meth c H locs cells slots 0 0 (F0 m pc ls st) rest (Qc (Value.ref (ad k) :: As).toArray) (AX ad H.size) := by
  obtain ⟨hC, hd⟩ := hd
  subst hC
  refine va_runV S hM ⟨callB_of na S.2.2.2.2 (good_y w5) rfl hrm.1 hrm.2.1 (S.2.2.2.2 _ w4) (S.2.2.2.2 _ w1) hd hrm.2.2, S.2.2.2.2 _ w2, S.2.2.2.2 _ w3⟩ ⟨XP_blind, va_recv hw.1 hw.2.1 hc (by rw [wX_get hk, ho]), fun U hU hW => ⟨rfl, by rw [hU], va_Nw.warmM hW hw.2.2.2.2, va_K.moved hW.alike hw.1, by rw [hU]; exact hw.2.1, hw.2.2.1.weaken (fun _ _ _ _ => trivial)⟩⟩ rfl hn hls hst (lv_room h8) hdg hf
theorem x_runS {y : MethodName} {b : ByteArray} {n nL na index : Nat} {r : Option FieldType} {rm : Room} {As st : List Value} {Qc : Array Value → State → Outcome → State → Prop} {own : String} (S : CallFix p m c cc nL s args lwg own) (hM : Met l y (wsy y b n r) rm (XP D g ad H.size As u) Qc 0 0 (AX ad H.size))
    (w1 : Cond.methodLink own index y ∈ lwg) (w2 : Cond.static y ∈ lwg) (w4 : Cond.initialized y.cls ∈ lwg) (w5 : Cond.code y b n r ∈ lwg) (hd : y.cls ≠ "java/lang/invoke/MethodHandle" ∧ y.cls ≠ "java/lang/invoke/VarHandle" ∧ (parseMethodDescriptor y.desc).map (fun d => d.parameters.length) = some na) (hrm : rm.cells = 0 ∧ rm.slots = 0 ∧ rm.frames + 1 ≤ R.frames ∧ 8 + (n + 11) + rm.locals ≤ R.locals)
    (hw : XH D g ad A s H0 H locs u) (hn : As.length = na) (hls : ls.size = nL) (hst : st = As.reverse ++ rest) (h8 : (rest.map fun v => v.category).sum ≤ 8) (hdg : decode cc pc = .ok (.invokestatic index, 3)) (hf : cells ≤ R.cells ∧ slots ≤ R.slots) :
    va_Run p l e R s m args below meth c H locs cells slots 0 0 (F0 m pc ls st) rest (Qc As.toArray) (AX ad H.size) := by
  refine va_runS S hM ⟨callB_of na S.2.2.2.2 (good_y w5) rfl hrm.1 hrm.2.1 (S.2.2.2.2 _ w4) (S.2.2.2.2 _ w1) hd hrm.2.2, S.2.2.2.2 _ w2⟩ ⟨XP_blind, fun U hU hW => ⟨rfl, by rw [hU], va_Nw.warmM hW hw.2.2.2.2, va_K.moved hW.alike hw.1, by rw [hU]; exact hw.2.1, hw.2.2.1.weaken (fun _ _ _ _ => trivial)⟩⟩ rfl hn hls hst (lv_room h8) hdg hf
theorem x_runSN {y : MethodName} {b : ByteArray} {n nL na index : Nat} {r : Option FieldType} {rm : Room} {As st : List Value} {Qc : Array Value → State → Outcome → State → Prop} {own host : String} (S : CallFix p m c cc nL s args lwg own) (hM : Met l y (wsy y b n r) rm (XP D g ad H.size As u) Qc 0 0 (AX ad H.size))
    (w1 : va_Nw (.methodLinkNest own index y host) s) (w2 : Cond.static y ∈ lwg) (w4 : Cond.initialized y.cls ∈ lwg) (w5 : Cond.code y b n r ∈ lwg) (hd : y.cls ≠ "java/lang/invoke/MethodHandle" ∧ y.cls ≠ "java/lang/invoke/VarHandle" ∧ (parseMethodDescriptor y.desc).map (fun d => d.parameters.length) = some na) (hrm : rm.cells = 0 ∧ rm.slots = 0 ∧ rm.frames + 1 ≤ R.frames ∧ 8 + (n + 11) + rm.locals ≤ R.locals)
    (hw : XH D g ad A s H0 H locs u) (hn : As.length = na) (hls : ls.size = nL) (hst : st = As.reverse ++ rest) (h8 : (rest.map fun v => v.category).sum ≤ 8) (hdg : decode cc pc = .ok (.invokestatic index, 3)) (hf : cells ≤ R.cells ∧ slots ≤ R.slots) :
    va_Run p l e R s m args below meth c H locs cells slots 0 0 (F0 m pc ls st) rest (Qc As.toArray) (AX ad H.size) := by
  refine va_runSN (host := host) S hM ⟨va_cnB na S.2.2.2.2 (good_y w5) rfl hrm.1 hrm.2.1 w1 (S.2.2.2.2 _ w4) hd hrm.2.2, S.2.2.2.2 _ w2, trivial⟩ ⟨XP_blind, fun U hU hW => ⟨rfl, by rw [hU], va_Nw.warmM hW hw.2.2.2.2, va_K.moved hW.alike hw.1, by rw [hU]; exact hw.2.1, hw.2.2.1.weaken (fun _ _ _ _ => trivial)⟩⟩ rfl hn hls hst (lv_room h8) hdg hf
/-- behind a call -/
theorem x_free (hw : XH D g ad A s H0 H locs u) (hA : ∀ q, H0.size ≤ q → A q) : ∀ q, AX ad H.size q → A q := fun q h => by
  rcases h with ⟨k, hk, rfl⟩ | h
  · exact hw.2.2.1.2 k _ (wX_get hk)
  · exact hA q (Nat.le_trans hw.2.2.2.1.1 h)
theorem x_ci {st : List Value} {a : Array Value} {post : Int32 → St → Prop} (hr : va_Run p l e R s m args below meth c H locs cells slots 0 0 (F0 m pc ls st) rest (va_Qi post (XB D g ad H.size) (AX ad H.size) a) (AX ad H.size)) (hw : XH D g ad A s H0 H locs u) (hA : ∀ q, H0.size ≤ q → A q)
    (kk : ∀ (v : Int32) (u : St) (H : Heap) (locs : List Loc), post v u → XH D g ad A s H0 H locs u → W p l e R s m args below meth c H locs cells slots Q (F0 m (pc + 3) ls (.int v :: rest))) : W p l e R s m args below meth c H locs cells slots Q (F0 m pc ls st) := by
  have hF := x_free hw hA
  refine va_calli hr hw.2.2.2.1 (fun q _ h => hF q h) hF (fun v u1 t H1 locs1 ht _ hp hB _ _ hS => ?_)
  obtain ⟨-, hP1, hD1⟩ := hB
  rw [ht] at hP1
  exact kk v u1 H1 locs1 hp ⟨hw.1, hP1, hD1.weaken (fun _ _ _ h => hF _ h), hS, hw.2.2.2.2⟩
theorem x_cl {st : List Value} {a : Array Value} {post : Int64 → St → Prop} (hr : va_Run p l e R s m args below meth c H locs cells slots 0 0 (F0 m pc ls st) rest (va_Ql post (XB D g ad H.size) (AX ad H.size) a) (AX ad H.size)) (hw : XH D g ad A s H0 H locs u) (hA : ∀ q, H0.size ≤ q → A q)
    (kk : ∀ (v : Int64) (u : St) (H : Heap) (locs : List Loc), post v u → XH D g ad A s H0 H locs u → W p l e R s m args below meth c H locs cells slots Q (F0 m (pc + 3) ls (.long v :: rest))) : W p l e R s m args below meth c H locs cells slots Q (F0 m pc ls st) := by
  have hF := x_free hw hA
  refine va_calll hr hw.2.2.2.1 (fun q _ h => hF q h) hF (fun v u1 t H1 locs1 ht _ hp hB _ _ hS => ?_)
  obtain ⟨-, hP1, hD1⟩ := hB
  rw [ht] at hP1
  exact kk v u1 H1 locs1 hp ⟨hw.1, hP1, hD1.weaken (fun _ _ _ h => hF _ h), hS, hw.2.2.2.2⟩
theorem x_cv {st : List Value} {a : Array Value} {post : St → Prop} (hr : va_Run p l e R s m args below meth c H locs cells slots 0 0 (F0 m pc ls st) rest (va_Qv post (XB D g ad H.size) (AX ad H.size) a) (AX ad H.size)) (hw : XH D g ad A s H0 H locs u) (hA : ∀ q, H0.size ≤ q → A q)
    (kk : ∀ (u : St) (H : Heap) (locs : List Loc), post u → XH D g ad A s H0 H locs u → W p l e R s m args below meth c H locs cells slots Q (F0 m (pc + 3) ls rest)) : W p l e R s m args below meth c H locs cells slots Q (F0 m pc ls st) := by
  have hF := x_free hw hA
  refine va_callv hr hw.2.2.2.1 (fun q _ h => hF q h) hF (fun u1 t H1 locs1 ht _ hp hB _ _ hS => ?_)
  obtain ⟨-, hP1, hD1⟩ := hB
  rw [ht] at hP1
  exact kk u1 H1 locs1 hp ⟨hw.1, hP1, hD1.weaken (fun _ _ _ h => hF _ h), hS, hw.2.2.2.2⟩
theorem x_cr {st : List Value} {a : Array Value} {post : St × Nat → Prop} (hr : va_Run p l e R s m args below meth c H locs cells slots 0 0 (F0 m pc ls st) rest (va_Qr post (XBr D g ad H.size) (AX ad H.size) a) (AX ad H.size)) (hw : XH D g ad A s H0 H locs u) (hA : ∀ q, H0.size ≤ q → A q)
    (kk : ∀ (u : St) (k : Nat) (H : Heap) (locs : List Loc), post (u, k) → XH D g ad A s H0 H locs u → W p l e R s m args below meth c H locs cells slots Q (F0 m (pc + 3) ls (.ref (ad k) :: rest))) : W p l e R s m args below meth c H locs cells slots Q (F0 m pc ls st) := by
  have hF := x_free hw hA
  refine va_callr hr hw.2.2.2.1 (fun q _ h => hF q h) hF (fun u1 ra t H1 locs1 ht _ hp hB _ _ hS => ?_)
  obtain ⟨rfl, -, hP1, hD1⟩ := hB
  rw [ht] at hP1
  exact kk u1.1 u1.2 H1 locs1 hp ⟨hw.1, hP1, hD1.weaken (fun _ _ _ h => hF _ h), hS, hw.2.2.2.2⟩
end XC
