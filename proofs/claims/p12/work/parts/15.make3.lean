abbrev rmC (f k mc ms : Nat) : Room := { frames := f, cells := mc, slots := ms, locals := k }
def YP (D : va_G) (g : Ids) (sz h0 : Nat) (e : va_E) : Array Value → State → Prop := va_Pc [.ref h0] (fun U => U.heap.size = sz ∧ XN2 U ∧ va_K D vwC (xty g) U ∧ va_P D vwC [(h0, e)] U.heap ∧ va_D (fun _ => True) [(h0, e)])
def YB (D : va_G) (A : Nat → Prop) (ws : va_W) (t : State) : Prop := va_P D vwC ws t.heap ∧ va_D A ws
/-- a constructor's contract: from the blank object e to the world 'post' -/
def YM (l : Launch) (D : va_G) (g : Ids) (y : MethodName) (b : ByteArray) (n : Nat) (rm : Room) (e : va_E) (mc ms : Nat) (post : Nat → va_W → Prop) : Prop := ∀ h0 sz, Met l y (wsy y b n none) rm (YP D g sz h0 e) (va_Qv (post h0) (YB D (va_A [(h0, e)] sz)) (va_A [(h0, e)] sz)) mc ms (va_A [(h0, e)] sz)
theorem YP_blind {D : va_G} {g : Ids} {sz h0 : Nat} {e : va_E} : FrameBlind (YP D g sz h0 e) := fun a U gg mk q => by
  obtain ⟨q0, q1, qN, qK, qP, qD⟩ := q
  exact ⟨q0, q1, qN.calling, va_K.moved (u := U) (U := U.calling gg mk a) (Vm.Alike.refl U.vm) qK, qP, qD⟩
section YC
variable {p : Program} {l : Launch} {e : Env} {R : Room} {s : State} {m : MethodId} {args : Array Value} {below : List Frame} {meth : Method} {c : Code} {H : Heap} {locs : List Loc} {cells slots : Nat} {Q : State → Prop}
variable {cc : ByteArray} {pc : Nat} {ls : Array Slot} {rest : List Value} {D : va_G} {g : Ids} {A : Nat → Prop} {ws : va_W} {H0 : Heap} {a : Nat}
theorem y_met {y : MethodName} {b : ByteArray} {n : Nat} {rm : Room} {o : va_E} {mc ms : Nat} {post : Nat → va_W → Prop} (hy : plainName y.cls = true) (hn : 1 ≤ n)
    (body : ∀ (h0 : Nat) (p : Program) (e : Env) (s : State) (m : MethodId) (below : List Frame) (meth : Method) (c : Code), p.tables.exec = Jvm.exec → c.code = b → meth.sig.returnType = none → c.maxLocals = n → s.vm.findClass y.cls = some m.cls → (∀ w ∈ lwg, w.before #[Value.ref h0] s = true) → meth.locks = false → meth.name = y.name → YH D g (va_A [(h0, o)] s.heap.size) s s.heap s.heap [] [(h0, o)] → ∀ ls : Array Slot, lv_has ls n [(0, .ref h0)] → W p l e rm s m #[Value.ref h0] below meth c s.heap [] 0 0 (MQ below (va_Qv (post h0) (YB D (va_A [(h0, o)] s.heap.size)) (va_A [(h0, o)] s.heap.size)) #[Value.ref h0] s mc ms (va_A [(h0, o)] s.heap.size)) (F0 m 0 ls [])) :
    YM l D g y b n rm o mc ms post := by
  intro h0 sz
  refine Met.ofW (cc := b) (maxL := n) (ret := none) hy rfl ?_
  intro p e s m args below meth c s₁ B hml hv
  obtain ⟨rfl, hsz, hN, hK, hP, hD⟩ := hv
  subst hsz
  have hts := atoms_spec (ws := wsy y b n none) B.pre
  have hl := lv_entry [.ref h0] (n := n) hn
  rw [lg_entry_eq]
  generalize (lg_sl [.ref h0] ++ List.replicate (n - (lg_sl [.ref h0]).length) Slot.unset).toArray = ls at hl ⊢
  exact body h0 p e s m below meth c B.exec B.bytes B.returns hml (findClass_of_methodNamed B.named) (fun w h => hts w (List.mem_cons_of_mem _ h)) B.notSynchronized (name_of_methodNamed B.named B.method).1 ⟨hK, hP, hD.self, va_S.rf, hN⟩ ls hl
theorem y_vret {post : va_W → Prop} (hx : p.tables.exec = Jvm.exec) (hb : c.code = cc) (hr : meth.sig.returnType = none) (hlk : meth.locks = false) (hw : YH D g A s s.heap H locs ws) (hp : post ws) (hdg : decode cc pc = .ok (.return_, 1)) :
    W p l e R s m args below meth c H locs cells slots (MQ below (va_Qv post (YB D A) A) args s cells slots A) (F0 m pc ls []) :=
  W.vret hx hb hr (fun t ht hW => ⟨⟨ws, rfl, hp, by rw [ht]; exact hw.2.1, hw.2.2.1⟩, hw.2.2.2.1.F ht⟩) hw.2.2.2.1.2.2 hdg hlk
theorem y_one {q : Nat} {o : va_E} (h : YH D g A s H0 H locs (ws ++ [(q, o)])) : va_P D vwC [(q, o)] H ∧ va_D A [(q, o)] ∧ va_P D vwC ws H ∧ va_D A ws ∧ ∀ (k : Nat) (x : Nat × va_E), ws[k]? = some x → x.1 ≠ q := by
  obtain ⟨-, hP, hD, -, -⟩ := h
  have hq : (ws ++ [(q, o)])[ws.length]? = some (q, o) := by simp
  have hl : ∀ (k : Nat) (x : Nat × va_E), ws[k]? = some x → (ws ++ [(q, o)])[k]? = some x := fun k x hk => by
    have := (List.getElem?_eq_some_iff.mp hk).1
    rw [List.getElem?_append_left this]
    exact hk
  refine ⟨fun k x hk => ?_, ⟨fun i j x z hi hj _ => ?_, fun k x hk => ?_⟩, fun k x hk => hP k x (hl k x hk), ⟨fun i j x z hi hj h => hD.1 i j x z (hl i x hi) (hl j z hj) h, fun k x hk => hD.2 k x (hl k x hk)⟩, fun k x hk he => ?_⟩
  · have h0 : k < 1 := (List.getElem?_eq_some_iff.mp hk).1
    rw [show k = 0 by omega] at hk
    cases hk
    exact hP _ _ hq
  · have h1 : i < 1 := (List.getElem?_eq_some_iff.mp hi).1
    have h2 : j < 1 := (List.getElem?_eq_some_iff.mp hj).1
    omega
  · have h0 : k < 1 := (List.getElem?_eq_some_iff.mp hk).1
    rw [show k = 0 by omega] at hk
    cases hk
    exact hD.2 _ _ hq
  · have h9 := hD.1 k ws.length x (q, o) (hl k x hk) hq he
    have := (List.getElem?_eq_some_iff.mp hk).1
    omega
theorem y_after {q mc ms : Nat} {o : va_E} {post : va_W → Prop} {st : List Value} {aa : Array Value} (hr : va_Run p l e R s m args below meth c H locs cells slots mc ms (F0 m pc ls st) rest (va_Qv post (YB D (va_A [(q, o)] H.size)) (va_A [(q, o)] H.size) aa) (va_A [(q, o)] H.size)) (hw : YH D g A s H0 H locs (ws ++ [(q, o)])) (hA : ∀ q, H0.size ≤ q → A q)
    (kk : ∀ (w1 : va_W) (H : Heap) (locs : List Loc), post w1 → YH D g A s H0 H locs (ws ++ w1) → W p l e R s m args below meth c H locs (cells + mc) (slots + ms) Q (F0 m (pc + 3) ls rest)) : W p l e R s m args below meth c H locs cells slots Q (F0 m pc ls st) := by
  obtain ⟨hPq, hDq, hPw, hDw, hne⟩ := y_one hw
  obtain ⟨hK, -, -, hS, hN⟩ := hw
  have hF : ∀ x, va_A [(q, o)] H.size x → A x := fun x h => by
    rcases h with ⟨k, e9, h⟩ | h
    · exact hDq.2 k _ h
    · exact hA x (Nat.le_trans hS.1 h)
  have hnA : ∀ (k : Nat) (x : Nat × va_E), ws[k]? = some x → ¬ va_A [(q, o)] H.size x.1 := fun k x hk h => by
    rcases h with ⟨k9, e9, h⟩ | h
    · have h0 : k9 < 1 := (List.getElem?_eq_some_iff.mp h).1
      rw [show k9 = 0 by omega] at h
      have h2 := congrArg Prod.fst (Option.some.inj h)
      exact hne k x hk h2.symm
    · have := (hPw k x hk).lt
      omega
  refine va_callv hr hS (fun x _ h => hF x h) hF (fun w1 t H1 locs1 ht _ hp hB _ hk hS1 => ?_)
  obtain ⟨hP1, hD1⟩ := hB
  rw [ht] at hP1
  refine kk w1 H1 locs1 hp ⟨hK, (hPw.kept (fun k x hx => hk x.1 ((hPw k x hx).lt) (hnA k x hx))).app hP1, hDw.app (hD1.weaken (fun _ _ _ h => hF _ h)) (fun i j x z hi hj h => ?_), hS1, hN⟩
  have := hD1.2 j z hj
  rw [← h] at this
  exact hnA i x hi this
theorem y_runI {y : MethodName} {b : ByteArray} {n nL index : Nat} {rm : Room} {q mc ms : Nat} {o : va_E} {Qc : Array Value → State → Outcome → State → Prop} {own : String} (S : CallFix p m c cc nL s args lwg own) (hM : Met l y (wsy y b n none) rm (YP D g H.size q o) Qc mc ms (va_A [(q, o)] H.size))
    (w1 : Cond.methodLink own index y ∈ lwg) (w2 : Cond.instanceMethod y ∈ lwg) (w4 : Cond.initialized y.cls ∈ lwg) (w5 : Cond.code y b n none ∈ lwg) (hy : y.name = "<init>") (hd : y.cls ≠ "java/lang/invoke/MethodHandle" ∧ y.cls ≠ "java/lang/invoke/VarHandle" ∧ (parseMethodDescriptor y.desc).map (fun d => d.parameters.length) = some 0) (hrm : rm.cells = mc ∧ rm.slots = ms ∧ rm.frames + 1 ≤ R.frames ∧ 8 + (n + 11) + rm.locals ≤ R.locals)
    (hw : YH D g A s H0 H locs (ws ++ [(q, o)])) (hls : ls.size = nL) (h8 : (rest.map fun v => v.category).sum ≤ 8) (hdg : decode cc pc = .ok (.invokespecial index, 3)) (hf : cells + mc ≤ R.cells ∧ slots + ms ≤ R.slots) :
    va_Run p l e R s m args below meth c H locs cells slots mc ms (F0 m pc ls (.ref q :: rest)) rest (Qc #[Value.ref q]) (va_A [(q, o)] H.size) := by
  obtain ⟨hPq, hDq, -⟩ := y_one hw
  exact va_runI (As := []) S hM ⟨callB_of 0 S.2.2.2.2 (good_y w5) rfl hrm.1 hrm.2.1 (S.2.2.2.2 _ w4) (S.2.2.2.2 _ w1) hd hrm.2.2, hy, S.2.2.2.2 _ w2⟩ ⟨YP_blind, fun U hU hW => ⟨rfl, by rw [hU], hw.2.2.2.2.warm hW, va_K.moved hW.alike hw.1, by rw [hU]; exact hPq, hDq.weaken (fun _ _ _ _ => trivial)⟩⟩ rfl rfl hls rfl (lv_room h8) hdg hf
theorem y_runIN {y : MethodName} {b : ByteArray} {n nL index : Nat} {rm : Room} {q mc ms : Nat} {o : va_E} {Qc : Array Value → State → Outcome → State → Prop} {own host : String} (S : CallFix p m c cc nL s args lwg own) (hM : Met l y (wsy y b n none) rm (YP D g H.size q o) Qc mc ms (va_A [(q, o)] H.size))
    (w1 : va_Nw (.methodLinkNest own index y host) s) (w2 : Cond.instanceMethod y ∈ lwg) (w4 : Cond.initialized y.cls ∈ lwg) (w5 : Cond.code y b n none ∈ lwg) (hy : y.name = "<init>") (hd : y.cls ≠ "java/lang/invoke/MethodHandle" ∧ y.cls ≠ "java/lang/invoke/VarHandle" ∧ (parseMethodDescriptor y.desc).map (fun d => d.parameters.length) = some 0) (hrm : rm.cells = mc ∧ rm.slots = ms ∧ rm.frames + 1 ≤ R.frames ∧ 8 + (n + 11) + rm.locals ≤ R.locals)
    (hw : YH D g A s H0 H locs (ws ++ [(q, o)])) (hls : ls.size = nL) (h8 : (rest.map fun v => v.category).sum ≤ 8) (hdg : decode cc pc = .ok (.invokespecial index, 3)) (hf : cells + mc ≤ R.cells ∧ slots + ms ≤ R.slots) :
    va_Run p l e R s m args below meth c H locs cells slots mc ms (F0 m pc ls (.ref q :: rest)) rest (Qc #[Value.ref q]) (va_A [(q, o)] H.size) := by
  obtain ⟨hPq, hDq, -⟩ := y_one hw
  exact va_runIN (As := []) (host := host) S hM ⟨va_cnB 0 S.2.2.2.2 (good_y w5) rfl hrm.1 hrm.2.1 w1 (S.2.2.2.2 _ w4) hd hrm.2.2, hy, S.2.2.2.2 _ w2⟩ ⟨YP_blind, fun U hU hW => ⟨rfl, by rw [hU], hw.2.2.2.2.warm hW, va_K.moved hW.alike hw.1, by rw [hU]; exact hPq, hDq.weaken (fun _ _ _ _ => trivial)⟩⟩ rfl rfl hls rfl (lv_room h8) hdg hf
end YC
