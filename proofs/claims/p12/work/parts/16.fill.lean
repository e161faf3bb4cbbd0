def fillA (f : Nat → Int32) (x : Int32) (t : Nat) : Nat → Int32 := fun j => if j < t then x else f j
theorem fillA_0 (f : Nat → Int32) (x : Int32) : fillA f x 0 = f := by funext j; unfold fillA; simp
theorem fillA_s (f : Nat → Int32) (x : Int32) (t : Nat) : upd (fillA f x t) t x = fillA f x (t + 1) := by
  funext j
  unfold upd fillA
  by_cases h : j = t
  · subst h; simp
  · rw [if_neg h]
    by_cases h2 : j < t
    · rw [if_pos h2, if_pos (by omega)]
    · rw [if_neg h2, if_neg (by omega)]
def YPa (D : va_G) (g : Ids) (sz a : Nat) (e : va_E) (As : List Value) : Array Value → State → Prop := va_Pc As (fun U => U.heap.size = sz ∧ XN2 U ∧ va_K D vwC (xty g) U ∧ va_P D vwC [(a, e)] U.heap ∧ va_D (fun _ => True) [(a, e)])
theorem YPa_blind {D : va_G} {g : Ids} {sz h0 : Nat} {e : va_E} {As : List Value} : FrameBlind (YPa D g sz h0 e As) := fun a U gg mk q => by
  obtain ⟨q0, q1, qN, qK, qP, qD⟩ := q
  exact ⟨q0, q1, qN.calling, va_K.moved (u := U) (U := U.calling gg mk a) (Vm.Alike.refl U.vm) qK, qP, qD⟩
section YF
variable {p : Program} {l : Launch} {e : Env} {R : Room} {s : State} {m : MethodId} {args : Array Value} {below : List Frame} {meth : Method} {c : Code} {H : Heap} {locs : List Loc} {cells slots : Nat} {Q : State → Prop}
variable {cc : ByteArray} {pc : Nat} {ls : Array Slot} {rest : List Value} {D : va_G} {g : Ids} {A : Nat → Prop} {ws : va_W} {H0 : Heap} {a : Nat}
theorem y_iast (hx : p.tables.exec = Jvm.exec) (hb : c.code = cc) (hw : YH D g A s H0 H locs ws) (k : Nat) {n i : Nat} {f : Nat → Int32} (he : ws[k]? = some (a, .inl (g.1, n, .inl f))) {x : Int32} (hi : i < n) (hnb : n ≤ 1000) (hdg : decode cc pc = .ok (.iastore, 1))
    (kk : ∀ (H : Heap) (locs : List Loc), YH D g A s H0 H locs (ws.set k (a, .inl (g.1, n, .inl (upd f i x)))) → W p l e R s m args below meth c H locs cells slots Q (F0 m (pc + 1) ls rest)) : W p l e R s m args below meth c H locs cells slots Q (F0 m pc ls (.int x :: .int (nI i) :: .ref a :: rest)) := by
  obtain ⟨hK, hP, hD, hS, hN⟩ := hw
  refine va_iast hx hb hK hP hD hS k 0 he rfl (vp_in_nI hi (by omega)) hdg (fun H1 locs1 hP1 hD1 hS1 => ?_)
  rw [nI_clamp (by omega)] at hP1 hD1
  exact kk H1 locs1 ⟨hK, hP1, hD1, hS1, hN⟩
theorem y_alen (hx : p.tables.exec = Jvm.exec) (hb : c.code = cc) (hw : YH D g A s H0 H locs ws) (k : Nat) {n : Nat} {f : Nat → Int32} (he : ws[k]? = some (a, .inl (g.1, n, .inl f))) (hdg : decode cc pc = .ok (.arraylength, 1))
    (kk : W p l e R s m args below meth c H locs cells slots Q (F0 m (pc + 1) ls (.int (nI n) :: rest))) : W p l e R s m args below meth c H locs cells slots Q (F0 m pc ls (.ref a :: rest)) :=
  va_alen (v := nI n) hx hb hw.1 hw.2.1 k 0 he (ty := .int) rfl rfl hdg kk
theorem y_runF {y : MethodName} {b : ByteArray} {n nL index : Nat} {rm : Room} {q mc ms : Nat} {o : va_E} {x : Int32} {Qc : Array Value → State → Outcome → State → Prop} {own : String} (S : CallFix p m c cc nL s args lwg own) (hM : Met l y (wsy y b n none) rm (YPa D g H.size q o [.ref q, .int x]) Qc mc ms (va_A [(q, o)] H.size))
    (w1 : Cond.methodLink own index y ∈ lwg) (w2 : Cond.static y ∈ lwg) (w4 : Cond.initialized y.cls ∈ lwg) (w5 : Cond.code y b n none ∈ lwg) (hd : y.cls ≠ "java/lang/invoke/MethodHandle" ∧ y.cls ≠ "java/lang/invoke/VarHandle" ∧ (parseMethodDescriptor y.desc).map (fun d => d.parameters.length) = some 2) (hrm : rm.cells = mc ∧ rm.slots = ms ∧ rm.frames + 1 ≤ R.frames ∧ 8 + (n + 11) + rm.locals ≤ R.locals)
    (hw : YH D g A s H0 H locs (ws ++ [(q, o)])) (hls : ls.size = nL) (h8 : (rest.map fun v => v.category).sum ≤ 8) (hdg : decode cc pc = .ok (.invokestatic index, 3)) (hf : cells + mc ≤ R.cells ∧ slots + ms ≤ R.slots) :
    va_Run p l e R s m args below meth c H locs cells slots mc ms (F0 m pc ls (.int x :: .ref q :: rest)) rest (Qc #[Value.ref q, Value.int x]) (va_A [(q, o)] H.size) := by
  obtain ⟨hPq, hDq, -⟩ := y_one hw
  exact va_runS (As := [.ref q, .int x]) S hM ⟨callB_of 2 S.2.2.2.2 (good_y w5) rfl hrm.1 hrm.2.1 (S.2.2.2.2 _ w4) (S.2.2.2.2 _ w1) hd hrm.2.2, S.2.2.2.2 _ w2⟩ ⟨YPa_blind, fun U hU hW => ⟨rfl, by rw [hU], hw.2.2.2.2.warm hW, va_K.moved hW.alike hw.1, by rw [hU]; exact hPq, hDq.weaken (fun _ _ _ _ => trivial)⟩⟩ rfl rfl hls rfl (lv_room h8) hdg hf
end YF
set_option maxHeartbeats 4000000 in
set_option maxRecDepth 100000 in
theorem k_Arrays_fill {l : Launch} {D : va_G} {g : Ids} (x : Int32) (a n : Nat) (f : Nat → Int32) (sz : Nat) (hn : n ≤ 1000) : Met l y_Arrays_fill (wsy y_Arrays_fill b_Arrays_fill 4 none) (rmC 0 0 0 0) (YPa D g sz a (.inl (g.1, n, .inl f)) [.ref a, .int x]) (va_Qv (fun ws => ws = [(a, .inl (g.1, n, .inl (fillA f x n)))]) (YB D (va_A [(a, .inl (g.1, n, .inl f))] sz)) (va_A [(a, .inl (g.1, n, .inl f))] sz)) 0 0 (va_A [(a, .inl (g.1, n, .inl f))] sz) := by
  refine Met.ofW (cc := b_Arrays_fill) (maxL := 4) (ret := none) (by decide) rfl ?_
  intro p e s m args below meth c s₁ B hml hv
  obtain ⟨rfl, hsz, hN, hK, hP, hD⟩ := hv
  subst hsz
  have hx := B.exec
  have hb := B.bytes
  have hr := B.returns
  have hlk := B.notSynchronized
  have hl := lv_entry [.ref a, .int x] (n := 4) (Nat.le_of_ble_eq_true rfl)
  rw [lg_entry_eq]
  generalize (lg_sl [.ref a, .int x] ++ List.replicate (4 - (lg_sl [.ref a, .int x]).length) Slot.unset).toArray = ls at hl ⊢
  have hl : lv_has ls 4 [(0, .ref a), (1, .int x)] := hl
  have hw : YH D g (va_A [(a, .inl (g.1, n, .inl f))] s.heap.size) s s.heap s.heap [] [(a, .inl (g.1, n, .inl (fillA f x 0)))] := by
    rw [fillA_0]
    exact ⟨hK, hP, hD.self, va_S.rf, hN⟩
  have L5 : ∀ (n5 t : Nat), t ≤ n → n - t < n5 → ∀ (H : Heap) (locs : List Loc), YH D g (va_A [(a, .inl (g.1, n, .inl f))] s.heap.size) s s.heap H locs [(a, .inl (g.1, n, .inl (fillA f x t)))] → ∀ ls : Array Slot, lv_has ls 4 [(3, .int (nI n)), (2, .int (nI t)), (0, .ref a), (1, .int x)] → W p l e (rmC 0 0 0 0) s m ([.ref a, .int x] : List Value).toArray below meth c H locs 0 0 (MQ below (va_Qv (fun ws => ws = [(a, .inl (g.1, n, .inl (fillA f x n)))]) (YB D (va_A [(a, .inl (g.1, n, .inl f))] s.heap.size)) (va_A [(a, .inl (g.1, n, .inl f))] s.heap.size)) ([.ref a, .int x] : List Value).toArray s 0 0 (va_A [(a, .inl (g.1, n, .inl f))] s.heap.size)) (F0 m 5 ls []) := by
    intro n5
    induction n5 with
    | zero => intro t _ hz; exact absurd hz (by omega)
    | succ n5 ih =>
      intro t h1 h2 H locs hw ls hl
      refine lv_iload_n hx hb d_Arrays_fill_5 rfl (lv_at hl 1 rfl) ?_
      refine lv_iload_n hx hb d_Arrays_fill_6 rfl (lv_at hl 0 rfl) ?_
      refine lv_icmp_ge (tgt := 20) hx hb d_Arrays_fill_7 (by decide) (fun c7 => ?_) (fun c7 => ?_)
      · have h7 : n ≤ t := (nI_leI (a := n) (b := t) (by omega) (by omega)).mp c7
        exact y_vret hx hb hr hlk hw (by rw [show t = n by omega]) d_Arrays_fill_20
      · have h7 : ¬ n ≤ t := fun q => c7 ((nI_leI (a := n) (b := t) (by omega) (by omega)).mpr q)
        refine lv_aload_n hx hb d_Arrays_fill_10 rfl (lv_at hl 2 rfl) ?_
        refine lv_iload_n hx hb d_Arrays_fill_11 rfl (lv_at hl 1 rfl) ?_
        refine lv_iload_n hx hb d_Arrays_fill_12 rfl (lv_at hl 3 rfl) ?_
        refine y_iast hx hb hw 0 rfl (by omega) hn d_Arrays_fill_13 (fun H locs hw => ?_)
        rw [fillA_s] at hw
        have hw : YH D g (va_A [(a, .inl (g.1, n, .inl f))] s.heap.size) s s.heap H locs [(a, .inl (g.1, n, .inl (fillA f x (t + 1))))] := hw
        refine lv_iinc (v := (nI (t + 1))) (lv' := [(2, .int (nI (t + 1))), (3, .int (nI n)), (0, .ref a), (1, .int x)]) hx hb d_Arrays_fill_14 hl (k := 1) rfl (nI_1 _) (by decide) rfl (fun ls hl => ?_)
        refine lv_goto (tgt := 5) hx hb d_Arrays_fill_17 (by decide) ?_
        exact ih (t + 1) (by omega) (by omega) _ _ hw ls (lv_sub hl [1, 0, 2, 3] rfl)
  refine lv_iconst (v := 0) hx hb d_Arrays_fill_0 (by decide) ?_
  refine lv_istore_n (lv' := [(2, .int (nI 0)), (0, .ref a), (1, .int x)]) hx hb d_Arrays_fill_1 rfl hl (by decide) rfl (fun ls hl => ?_)
  refine lv_aload_n hx hb d_Arrays_fill_2 rfl (lv_at hl 1 rfl) ?_
  refine y_alen hx hb hw 0 rfl d_Arrays_fill_3 ?_
  refine lv_istore_n (lv' := [(3, .int (nI n)), (2, .int (nI 0)), (0, .ref a), (1, .int x)]) hx hb d_Arrays_fill_4 rfl hl (by decide) rfl (fun ls hl => ?_)
  exact L5 (n + 1) 0 (by omega) (by omega) _ _ hw ls hl
