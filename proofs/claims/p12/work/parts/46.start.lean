theorem ka_p {s : State} {args : Array Value} {ty : FieldType} (h : (Cond.arrayClass ty).before args s = true) : ∃ cA : ClassId, ArrOfT s cA ty ∧ s.vm.findClass ("[" ++ ty.toString) = some cA := by
  obtain ⟨cA, kA, comp, h1, h2, h3⟩ := Cond.arrayClass_spec h
  exact ⟨cA, fun n z => ⟨fun k h => (by cases h), kA, h2, comp, h3⟩, h1⟩
theorem ka_a {s : State} {args : Array Value} {t : FieldType} (h : (Cond.arrayOver (.array t)).before args s = true) : ∃ cA : ClassId, ArrOfT s cA (.array t) ∧ s.vm.findClass ("[" ++ (FieldType.array t).toString) = some cA := by
  obtain ⟨comp, cA, kA, h1, -, h2, h3, h4⟩ := arrayOver_specB h
  exact ⟨cA, fun n z => ⟨fun k h => (by cases h), kA, h2, comp, h3⟩, h4⟩
theorem ka_o {s : State} {args : Array Value} {C : String} (h : (Cond.arrayOver (.object C)).before args s = true) : ∃ cA : ClassId, ArrOfT s cA (.object C) ∧ va_RA s cA (.object C) := by
  obtain ⟨comp, cA, kA, h1, -, h2, h3, h4⟩ := Cond.arrayOver_spec h
  exact ⟨cA, fun n z => ⟨fun k h => (by cases h), kA, h2, comp, h3⟩, kA, comp, h2, h3, h1, h4⟩
theorem lw_K {s : State} {args : Array Value} (hts : ∀ w ∈ lw_tbl, w.before args s = true) : ∃ (D : va_G) (g : Ids), va_K D vwC (xty g) s := by
  have ht : ∀ w ∈ lwg, w.before args s = true := fun w h => hts w (List.mem_filter.mp h).1
  obtain ⟨c0, i0, hk0⟩ := u_known (C := R_Fo) (T := F_Fo) (N := 2) (n := 2) ht in_Fo (ht _ w_57)
  obtain ⟨c1, i1, hk1⟩ := u_known (C := R_Gr) (T := F_Gr) (N := 11) (n := 11) ht in_Gr (ht _ w_88)
  obtain ⟨c2, i2, hk2⟩ := u_known (C := R_Ju) (T := F_Ju) (N := 2) (n := 2) ht in_Ju (ht _ w_41)
  obtain ⟨c3, i3, hk3⟩ := u_known (C := R_Ra) (T := F_Ra) (N := 3) (n := 3) ht in_Ra (ht _ w_129)
  obtain ⟨c4, i4, hk4⟩ := u_known (C := R_Sh) (T := F_Sh) (N := 3) (n := 3) ht in_Sh (ht _ w_21)
  obtain ⟨c5, i5, hk5⟩ := u_known (C := R_Tr) (T := F_Tr) (N := 3) (n := 3) ht in_Tr (ht _ w_64)
  obtain ⟨c6, i6, hk6⟩ := u_known (C := R_X) (T := F_X) (N := 9) (n := 9) ht in_X (ht _ w_13)
  obtain ⟨c7, i7, hk7⟩ := u_known (C := R_M) (T := F_M) (N := 21) (n := 21) ht in_M (ht _ w_481)
  obtain ⟨a0, b0, d0⟩ := ka_p (ty := .int) (ht _ w_39)
  obtain ⟨a1, b1, d1⟩ := ka_p (ty := .boolean) (ht _ w_38)
  obtain ⟨a2, b2, d2⟩ := ka_p (ty := .long) (ht _ w_79)
  obtain ⟨a3, b3, d3⟩ := ka_a (t := .int) (hts _ w_27)
  obtain ⟨a4, b4, d4⟩ := ka_o (C := "LearnedRanker$Tree") (hts _ w_63)
  refine ⟨(fun k => match k with | 0 => c0 | 1 => c1 | 2 => c2 | 3 => c3 | 4 => c4 | 5 => c5 | 6 => c6 | _ => c7, fun k => match k with | 0 => i0 | 1 => i1 | 2 => i2 | 3 => i3 | 4 => i4 | 5 => i5 | 6 => i6 | _ => i7), (a0, a1, a2, a3, a4), fun k q hq => ?_, fun k q hq => ?_⟩
  · match k, hq with
    | 0, hq => cases hq; exact hk0
    | 1, hq => cases hq; exact hk1
    | 2, hq => cases hq; exact hk2
    | 3, hq => cases hq; exact hk3
    | 4, hq => cases hq; exact hk4
    | 5, hq => cases hq; exact hk5
    | 6, hq => cases hq; exact hk6
    | 7, hq => cases hq; exact hk7
    | k + 8, hq => simp [vwC] at hq
  · match k, hq with
    | 0, hq => cases hq; exact ⟨b0, d0⟩
    | 1, hq => cases hq; exact ⟨b1, d1⟩
    | 2, hq => cases hq; exact ⟨b2, d2⟩
    | 3, hq => cases hq; exact ⟨b3, d3⟩
    | 4, hq => cases hq; exact ⟨b4, d4⟩
    | k + 5, hq => simp [xty] at hq
theorem lw_N {s : State} {args : Array Value} (hts : ∀ w ∈ lw_tbl, w.before args s = true) : XN2 s := ⟨va_Nw.of rfl (hts _ w_192), va_Nw.of rfl (hts _ w_22), va_Nw.of rfl (hts _ w_65), va_Nw.of rfl (hts _ w_89), va_Nw.of rfl (hts _ w_130), va_AO.of (hts _ w_63), (hts _ w_27 : (Cond.arrayOver (.array .int)).before args s = true)⟩
set_option maxHeartbeats 4000000 in
set_option maxRecDepth 100000 in
theorem whole_start {p : Program} {e : Env} {s : State} {m : MethodId} {below : List Frame} {meth : Method} {c : Code} (l : Launch) {b L : Nat} {xs : Nat → Int32} (hL : L ≤ 2048) (C0 : lw_At p s m meth c b L xs) : W p l e room_1 s m #[Value.ref b] below meth c s.heap [] 0 0 (lw_Z below #[Value.ref b] s) (entryFrame m ([Value.ref b] : List Value).toArray 4) := by
  obtain ⟨hx, hb, hr, hml, hown, hts, hX, hbl, hlk, hgv⟩ := id C0
  have hown : s.vm.findClass "LearnedRankerLaw" = some m.cls := hown
  have ht : ∀ w ∈ lwg, w.before #[Value.ref b] s = true := fun w h => hts w (List.mem_filter.mp h).1
  have hA : ∀ q : Nat, s.heap.size ≤ q → (fun q : Nat => s.heap.size ≤ q) q := fun _ h => h
  obtain ⟨D, g, hK⟩ := lw_K hts
  have hw : YH D g (fun q : Nat => s.heap.size ≤ q) s s.heap s.heap [] [] := ⟨hK, fun k q h => by simp at h, ⟨fun i j p q h => by simp at h, fun k q h => by simp at h⟩, va_S.rf, lw_N hts⟩
  have hl := lv_entry ([.ref b]) (n := 4) (Nat.le_of_ble_eq_true rfl)
  rw [lg_entry_eq]
  generalize (lg_sl ([.ref b]) ++ List.replicate (4 - (lg_sl ([.ref b])).length) Slot.unset).toArray = ls at hl ⊢
  have hl : lv_has ls 4 [(0, .ref b)] := hl
  refine y_new (ws := []) (ci := 6) (fs := [.null, .null, .null, .null, .null, .null, .null, .null, .int 0]) hx hb ht in_X t_X t_X_ok hown (ht _ w_12) (ht _ w_13) (ht _ w_1) hw hA rfl (fun j hj => by match j, hj with | 0, _ => rfl | 1, _ => rfl | 2, _ => rfl | 3, _ => rfl | 4, _ => rfl | 5, _ => rfl | 6, _ => rfl | 7, _ => rfl | 8, _ => rfl | j + 9, hj => exact absurd hj (by omega)) (Nat.le_of_ble_eq_true rfl) (Nat.le_of_ble_eq_true rfl) d_law_law_0 (fun h0 H hw => ?_)
  refine lv_dup hx hb d_law_law_3 rfl ?_
  refine y_after (ws := []) (y_runI ⟨hx, hb, hml, hown, ht⟩ (k_X_init _ _) w_14 w_15 w_1 w_16 rfl (by decide +kernel) ⟨rfl, rfl, (Nat.le_of_ble_eq_true rfl), (Nat.le_of_ble_eq_true rfl)⟩ hw hl.1 (Nat.le_of_ble_eq_true rfl) d_law_law_4 ⟨(Nat.le_of_ble_eq_true rfl), (Nat.le_of_ble_eq_true rfl)⟩) hw hA (fun w1 H locs hp hw => ?_)
  obtain ⟨q1, q2, q3, q4, r5, q6, q7, q8, q9, q10, q11, q12, q13, q14, q15, q16, q17, q18, q19, q20, q21, q22, q23, q24, q25, q26, q27, q28, r29, q30, q31, r32, q33, q34, q35, q36, q37, q38, q39, q40, hw1⟩ := hp
  refine lv_astore_n (lv' := [(1, .ref h0), (0, .ref b)]) hx hb d_law_law_7 rfl hl (by decide) rfl (fun ls hl => ?_)
  refine y_new (ws := ([] ++ w1)) (ci := 7) (fs := [.null, .null, .null, .null, .null, .int 0, .null, .null, .null, .null, .int 0, .null, .null, .null, .int 0, .null, .null, .int 0, .long 0, .int 0, .int 0]) hx hb ht in_M t_M t_M_ok hown (ht _ w_480) (ht _ w_481) (ht _ w_9) hw hA rfl (fun j hj => by match j, hj with | 0, _ => rfl | 1, _ => rfl | 2, _ => rfl | 3, _ => rfl | 4, _ => rfl | 5, _ => rfl | 6, _ => rfl | 7, _ => rfl | 8, _ => rfl | 9, _ => rfl | 10, _ => rfl | 11, _ => rfl | 12, _ => rfl | 13, _ => rfl | 14, _ => rfl | 15, _ => rfl | 16, _ => rfl | 17, _ => rfl | 18, _ => rfl | 19, _ => rfl | 20, _ => rfl | j + 21, hj => exact absurd hj (by omega)) (Nat.le_of_ble_eq_true rfl) (Nat.le_of_ble_eq_true rfl) d_law_law_8 (fun m0 H hw => ?_)
  refine lv_dup hx hb d_law_law_11 rfl ?_
  refine y_after (ws := ([] ++ w1)) (y_runI ⟨hx, hb, hml, hown, ht⟩ (k_M_init _ _) w_482 w_483 w_9 w_484 rfl (by decide +kernel) ⟨rfl, rfl, (Nat.le_of_ble_eq_true rfl), (Nat.le_of_ble_eq_true rfl)⟩ hw hl.1 (Nat.le_of_ble_eq_true rfl) d_law_law_12 ⟨(Nat.le_of_ble_eq_true rfl), (Nat.le_of_ble_eq_true rfl)⟩) hw hA (fun w2 H locs hp hw => ?_)
  obtain ⟨m1, m2, m3, m4, m5, m6, m7, m8, m9, m10, m11, m12, m13, m14, hw2⟩ := hp
  refine lv_astore_n (lv' := [(2, .ref m0), (1, .ref h0), (0, .ref b)]) hx hb d_law_law_15 rfl hl (by decide) rfl (fun ls hl => ?_)
  refine lv_iconst (v := 0) hx hb d_law_law_16 (by decide) ?_
  refine lv_istore_n (lv' := [(3, .int 0), (2, .ref m0), (1, .ref h0), (0, .ref b)]) hx hb d_law_law_17 rfl hl (by decide) rfl (fun ls hl => ?_)
  rw [hw1, hw2] at hw
  obtain ⟨ad, ha0, ha75, hw⟩ := made (h0 := h0) (q1 := q1) (q2 := q2) (q3 := q3) (q4 := q4) (q6 := q6) (q7 := q7) (q8 := q8) (q9 := q9) (q10 := q10) (q11 := q11) (q12 := q12) (q13 := q13) (q14 := q14) (q15 := q15) (q16 := q16) (q17 := q17) (q18 := q18) (q19 := q19) (q20 := q20) (q21 := q21) (q22 := q22) (q23 := q23) (q24 := q24) (q25 := q25) (q26 := q26) (q27 := q27) (q28 := q28) (q30 := q30) (q31 := q31) (q33 := q33) (q34 := q34) (q35 := q35) (q36 := q36) (q37 := q37) (q38 := q38) (q39 := q39) (q40 := q40) (m0 := m0) (m1 := m1) (m2 := m2) (m3 := m3) (m4 := m4) (m5 := m5) (m6 := m6) (m7 := m7) (m8 := m8) (m9 := m9) (m10 := m10) (m11 := m11) (m12 := m12) (m13 := m13) (m14 := m14) (r5 := r5) (r29 := r29) (r32 := r32) hw
  rw [← ha0, ← ha75] at hl
  refine W.widen (k := 600000) (n := 7302250) (Nat.le_of_ble_eq_true rfl) (Nat.le_of_ble_eq_true rfl) ?_
  exact law_loop hL C0 (L + 5) 0 u0 (Nat.zero_le L) jnv_u0 (by omega) _ _ hw ls (lv_sub hl [0, 3, 2, 1] rfl)
