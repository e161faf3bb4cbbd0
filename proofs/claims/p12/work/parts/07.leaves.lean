theorem xn_lt (k : Nat) : xn k < 200 := by
  by_cases h : k < 90
  · exact (show ∀ k, k < 90 → xn k < 200 by decide) k h
  · unfold xn
    rw [List.getD_eq_getElem?_getD, List.getElem?_eq_none (Nat.le_trans (by decide) (Nat.not_lt.mp h))]
    decide
section XA
variable {p : Program} {l : Launch} {e : Env} {R : Room} {s : State} {m : MethodId} {args : Array Value} {below : List Frame} {meth : Method} {c : Code} {H : Heap} {locs : List Loc} {cells slots : Nat} {Q : State → Prop}
variable {cc : ByteArray} {pc : Nat} {ls : Array Slot} {rest : List Value} {D : va_G} {g : Ids} {ad : Nat → Nat} {A : Nat → Prop} {u : St} {H0 : Heap}
theorem x_alen (hx : p.tables.exec = Jvm.exec) (hb : c.code = cc) (hw : XH D g ad A s H0 H locs u) {k N : Nat} (hk : k < 90) (h1 : xk k = 1) (hN : xn k = N) (hdg : decode cc pc = .ok (.arraylength, 1))
    (kk : W p l e R s m args below meth c H locs cells slots Q (F0 m (pc + 1) ls (.int (nI N) :: rest))) : W p l e R s m args below meth c H locs cells slots Q (F0 m pc ls (.ref (ad k) :: rest)) :=
  va_alen (v := nI N) hx hb hw.1 hw.2.1 k 0 (by rw [wX_get hk, xc_i h1]) (ty := .int) rfl (by show Int32.ofNat (xn k) = _; rw [hN]; rfl) hdg kk
end XA
theorem vin {n k N : Nat} (h : n < N) (hk : xn k = N) (hN : N < 2 ^ 31) : vp_in (nI n) (xn k) := by rw [hk]; exact vp_in_nI h hN
/-- 1 if 0 ≤ x ≤ n, else 0 -/
def withinF (x n : Int32) : Int32 := if x < 0 then 0 else if n < x then 0 else 1
theorem withinF_t {x n : Int32} (h : ¬ x < 0) (h2 : ¬ n < x) : withinF x n = 1 := by unfold withinF; rw [if_neg h, if_neg h2]
theorem withinF_n {x n : Int32} (h : x < 0) : withinF x n = 0 := by unfold withinF; rw [if_pos h]
theorem withinF_g {x n : Int32} (h2 : n < x) : withinF x n = 0 := by unfold withinF; rw [if_pos h2]; split <;> rfl
theorem withinF_z (x n : Int32) : narrow .boolean (.int (withinF x n)) = .int (withinF x n) := by unfold withinF; split; rfl; split <;> rfl
def inF (x n : Int32) : Int32 := if x < 0 then 0 else if n ≤ x then 0 else 1
theorem inF_t {x n : Int32} (h : ¬ x < 0) (h2 : ¬ n ≤ x) : inF x n = 1 := by unfold inF; rw [if_neg h, if_neg h2]
theorem inF_n {x n : Int32} (h : x < 0) : inF x n = 0 := by unfold inF; rw [if_pos h]
theorem inF_g {x n : Int32} (h2 : n ≤ x) : inF x n = 0 := by unfold inF; rw [if_pos h2]; split <;> rfl
theorem within_in {x n : Int32} {N : Nat} (h : ¬ withinF x n = 0) (hn : n = nI (N - 1) := by rfl) (h0 : 0 < N := by decide) (hN : N < 2 ^ 31 := by decide) : vp_in x N := by
  unfold withinF at h
  split at h
  · exact absurd rfl h
  · rename_i h1
    split at h
    · exact absurd rfl h
    · rename_i h2
      obtain ⟨j, hj, rfl⟩ := nI_of h1
      rw [hn] at h2
      exact vp_in_nI (by have := Nat.not_lt.mp (fun q => h2 ((nI_ltI (a := N - 1) (b := j) (by omega) hj).mpr q)); omega) hN
def holdsF (u : St) (d : Int32) : Int32 := if withinF d 15 = 0 then 0 else if u.1 9 d.toNatClampNeg = 0 then 0 else 1
def fillF (u : St) (k : Nat) (x : Int32) (n : Nat) : St := (fun k' => if k' = k then (fun j => if j < n then x else u.1 k j) else u.1 k', u.2)
theorem fillF_0 (u : St) (k : Nat) (x : Int32) : fillF u k x 0 = u := by
  unfold fillF
  have : (fun k' => if k' = k then (fun j => if j < 0 then x else u.1 k j) else u.1 k') = u.1 := by
    funext k'
    by_cases h : k' = k
    · subst h; simp
    · simp [h]
  rw [this]
theorem fillF_s (u : St) (k : Nat) (x : Int32) (n : Nat) : sI (fillF u k x n) k n x = fillF u k x (n + 1) := by
  unfold sI fillF
  refine Prod.ext ?_ rfl
  funext k' j
  by_cases h : k' = k
  · subst h
    simp only [if_true, upd]
    by_cases h2 : j = n
    · subst h2; simp
    · simp only [if_neg h2]
      by_cases h3 : j < n
      · rw [if_pos h3, if_pos (by omega)]
      · rw [if_neg h3, if_neg (by omega)]
  · simp [h]
def cntF (f : Nat → Int32) : Nat → Int32
  | 0 => 0
  | t + 1 => if f t = 0 then cntF f t else cntF f t + 1
def gsumF (f : Nat → Int32) : Nat → Int32
  | 0 => 0
  | t + 1 => if f t = -1 then gsumF f t else gsumF f t + f t
def jset1 (u : St) (j : Nat) : St := if u.1 12 j = -1 then u else sF u 1 (u.2.2.1 1 - 1)
def jset2 (u : St) (x : Int32) : St := if x = -1 then u else sF u 1 (u.2.2.1 1 + 1)
def jsetF (u : St) (j : Nat) (x : Int32) : St := sI (jset2 (jset1 u j) x) 12 j x
def sumF (f : Nat → Int32) : Nat → Int32
  | 0 => 0
  | t + 1 => sumF f t + f t
def sizesF (u : St) : Nat → Int32
  | 0 => 0
  | t + 1 => if u.1 9 t = 0 then sizesF u t else sizesF u t + sumF (u.1 (22 + t)) 12
set_option maxHeartbeats 4000000 in
set_option maxRecDepth 100000 in
theorem m_X_within {l : Launch} {D : va_G} {g : Ids} {ad : Nat → Nat} {u : St} (x : Int32) (n : Int32) : XMi l D g ad y_X_within b_X_within 2 ((some .boolean)) (rmN 0 0) [.int x, .int n] u (fun v w => v = withinF x n ∧ w = u) := fun sz => x_met (by decide) (Nat.le_of_ble_eq_true rfl) (fun p e s m below meth c hsz hx hb hr hml hown ht hlk hw ls hl => by
  have hA : ∀ q, s.heap.size ≤ q → AX ad sz q := fun q h => Or.inr (hsz ▸ h)
  have hl : lv_has ls 2 [(0, .int x), (1, .int n)] := hl
  refine lv_iload_n hx hb d_X_within_0 rfl (lv_at hl 0 rfl) ?_
  refine lv_if_lt (tgt := 13) hx hb d_X_within_1 (by decide) (fun c1 => ?_) (fun c1 => ?_)
  · refine lv_iconst (v := 0) hx hb d_X_within_13 (by decide) ?_
    exact x_zret hsz hx hb hr hlk hw rfl ⟨by first | exact (withinF_t (by assumption) (by assumption)).symm | exact (withinF_n (by assumption)).symm | exact (withinF_g (by assumption)).symm, rfl⟩ d_X_within_14
  · refine lv_iload_n hx hb d_X_within_4 rfl (lv_at hl 0 rfl) ?_
    refine lv_iload_n hx hb d_X_within_5 rfl (lv_at hl 1 rfl) ?_
    refine lv_icmp_gt (tgt := 13) hx hb d_X_within_6 (by decide) (fun c6 => ?_) (fun c6 => ?_)
    · refine lv_iconst (v := 0) hx hb d_X_within_13 (by decide) ?_
      exact x_zret hsz hx hb hr hlk hw rfl ⟨by first | exact (withinF_t (by assumption) (by assumption)).symm | exact (withinF_n (by assumption)).symm | exact (withinF_g (by assumption)).symm, rfl⟩ d_X_within_14
    · refine lv_iconst (v := 1) hx hb d_X_within_9 (by decide) ?_
      refine lv_goto (tgt := 14) hx hb d_X_within_10 (by decide) ?_
      exact x_zret hsz hx hb hr hlk hw rfl ⟨by first | exact (withinF_t (by assumption) (by assumption)).symm | exact (withinF_n (by assumption)).symm | exact (withinF_g (by assumption)).symm, rfl⟩ d_X_within_14)
set_option maxHeartbeats 4000000 in
set_option maxRecDepth 100000 in
theorem m_M_in {l : Launch} {D : va_G} {g : Ids} {ad : Nat → Nat} {u : St} (x : Int32) (n : Int32) : XMi l D g ad y_M_in b_M_in 2 ((some .boolean)) (rmN 0 0) [.int x, .int n] u (fun v w => v = inF x n ∧ w = u) := fun sz => x_met (by decide) (Nat.le_of_ble_eq_true rfl) (fun p e s m below meth c hsz hx hb hr hml hown ht hlk hw ls hl => by
  have hA : ∀ q, s.heap.size ≤ q → AX ad sz q := fun q h => Or.inr (hsz ▸ h)
  have hl : lv_has ls 2 [(0, .int x), (1, .int n)] := hl
  refine lv_iload_n hx hb d_M_in_0 rfl (lv_at hl 0 rfl) ?_
  refine lv_if_lt (tgt := 13) hx hb d_M_in_1 (by decide) (fun c1 => ?_) (fun c1 => ?_)
  · refine lv_iconst (v := 0) hx hb d_M_in_13 (by decide) ?_
    exact x_zret hsz hx hb hr hlk hw rfl ⟨by first | exact (inF_t (by assumption) (by assumption)).symm | exact (inF_n (by assumption)).symm | exact (inF_g (by assumption)).symm, rfl⟩ d_M_in_14
  · refine lv_iload_n hx hb d_M_in_4 rfl (lv_at hl 0 rfl) ?_
    refine lv_iload_n hx hb d_M_in_5 rfl (lv_at hl 1 rfl) ?_
    refine lv_icmp_ge (tgt := 13) hx hb d_M_in_6 (by decide) (fun c6 => ?_) (fun c6 => ?_)
    · refine lv_iconst (v := 0) hx hb d_M_in_13 (by decide) ?_
      exact x_zret hsz hx hb hr hlk hw rfl ⟨by first | exact (inF_t (by assumption) (by assumption)).symm | exact (inF_n (by assumption)).symm | exact (inF_g (by assumption)).symm, rfl⟩ d_M_in_14
    · refine lv_iconst (v := 1) hx hb d_M_in_9 (by decide) ?_
      refine lv_goto (tgt := 14) hx hb d_M_in_10 (by decide) ?_
      exact x_zret hsz hx hb hr hlk hw rfl ⟨by first | exact (inF_t (by assumption) (by assumption)).symm | exact (inF_n (by assumption)).symm | exact (inF_g (by assumption)).symm, rfl⟩ d_M_in_14)
set_option maxHeartbeats 4000000 in
set_option maxRecDepth 100000 in
theorem m_X_isQuery {l : Launch} {D : va_G} {g : Ids} {ad : Nat → Nat} {u : St} (q : Int32) : XMi l D g ad y_X_isQuery b_X_isQuery 1 ((some .boolean)) (rmN 1 21) [.int q] u (fun v w => v = withinF q 7 ∧ w = u) := fun sz => x_met (by decide) (Nat.le_of_ble_eq_true rfl) (fun p e s m below meth c hsz hx hb hr hml hown ht hlk hw ls hl => by
  have hA : ∀ q, s.heap.size ≤ q → AX ad sz q := fun q h => Or.inr (hsz ▸ h)
  have hl : lv_has ls 1 [(0, .int q)] := hl
  refine lv_iload_n hx hb d_X_isQuery_0 rfl (lv_at hl 0 rfl) ?_
  refine lv_bipush (v := 7) hx hb d_X_isQuery_1 (by decide) ?_
  refine x_ci (x_runS (na := 2) (As := [.int q, .int 7]) (rest := []) ⟨hx, hb, hml, hown, ht⟩ (m_X_within q 7 _) w_176 w_177 w_1 w_178 (by decide +kernel) ⟨rfl, rfl, by decide, by decide⟩ hw rfl hl.1 rfl (Nat.le_of_ble_eq_true rfl) d_X_isQuery_3 ⟨Nat.zero_le _, Nat.zero_le _⟩) hw hA (fun v3 u3 H locs hp hw => ?_)
  obtain ⟨hv9, hu⟩ := hp
  subst hv9
  have hu := hu.symm
  subst hu
  exact x_zret hsz hx hb hr hlk hw (withinF_z _ _) ⟨rfl, rfl⟩ d_X_isQuery_6)
set_option maxHeartbeats 4000000 in
set_option maxRecDepth 100000 in
theorem m_Ju_number {l : Launch} {D : va_G} {g : Ids} {ad : Nat → Nat} {u : St} : XMi l D g ad y_Ju_number b_Ju_number 1 ((some .int)) (rmN 0 0) [.ref (ad 3)] u (fun v w => v = u.2.2.1 1 ∧ w = u) := fun sz => x_met (by decide) (Nat.le_of_ble_eq_true rfl) (fun p e s m below meth c hsz hx hb hr hml hown ht hlk hw ls hl => by
  have hA : ∀ q, s.heap.size ≤ q → AX ad sz q := fun q h => Or.inr (hsz ▸ h)
  have hl : lv_has ls 1 [(0, .ref (ad 3))] := hl
  refine lv_aload_n hx hb d_Ju_number_0 rfl (lv_at hl 0 rfl) ?_
  refine x_get (ci := 2) (k := 3) hx hb ht in_Ju hown hw (by decide) o_Ju rfl 1 (by decide) (ht _ w_50) rfl d_Ju_number_1 ?_
  exact x_iret hsz hx hb hr hlk hw ⟨rfl, rfl⟩ d_Ju_number_4)
set_option maxHeartbeats 4000000 in
set_option maxRecDepth 100000 in
theorem m_Sh_sizeOf {l : Launch} {D : va_G} {g : Ids} {ad : Nat → Nat} {u : St} (d : Nat) (hd : d < 16) : XMi l D g ad y_Sh_sizeOf b_Sh_sizeOf 4 ((some .int)) (rmN 0 0) [.ref (ad 1), .int (nI d)] u (fun v w => v = sumF (u.1 (22 + d)) 12 ∧ w = u) := fun sz => x_met (by decide) (Nat.le_of_ble_eq_true rfl) (fun p e s m below meth c hsz hx hb hr hml hown ht hlk hw ls hl => by
  have hA : ∀ q, s.heap.size ≤ q → AX ad sz q := fun q h => Or.inr (hsz ▸ h)
  have hl : lv_has ls 4 [(0, .ref (ad 1)), (1, .int (nI d))] := hl
  refine lv_iconst (v := 0) hx hb d_Sh_sizeOf_0 (by decide) ?_
  refine lv_istore_n (lv' := [(2, .int 0), (0, .ref (ad 1)), (1, .int (nI d))]) hx hb d_Sh_sizeOf_1 rfl hl (by decide) rfl (fun ls hl => ?_)
  refine lv_iconst (v := 0) hx hb d_Sh_sizeOf_2 (by decide) ?_
  refine lv_istore_n (lv' := [(3, .int 0), (2, .int 0), (0, .ref (ad 1)), (1, .int (nI d))]) hx hb d_Sh_sizeOf_3 rfl hl (by decide) rfl (fun ls hl => ?_)
  have L4 : ∀ (n4 : Nat) (t : Nat), t ≤ 12 → 12 - t < n4 → ∀ (H : Heap) (locs : List Loc), XH D g ad (AX ad sz) s s.heap H locs u → ∀ ls : Array Slot, lv_has ls 4 [(3, .int (nI t)), (2, .int (sumF (u.1 (22 + d)) t)), (0, .ref (ad 1)), (1, .int (nI d))] → W p l e (rmN 0 0) s m ([.ref (ad 1), .int (nI d)] : List Value).toArray below meth c H locs 0 0 (MQ below (va_Qi (fun v w => v = sumF (u.1 (22 + d)) 12 ∧ w = u) (XB D g ad sz) (AX ad sz)) ([.ref (ad 1), .int (nI d)] : List Value).toArray s 0 0 (AX ad sz)) (F0 m 4 ls []) := by
    intro n4
    induction n4 with
    | zero => intro t h1 hz; exact absurd hz (by omega)
    | succ n4 ih4 =>
      intro t h1 hnL4 H locs hw ls hl
      refine lv_iload_n hx hb d_Sh_sizeOf_4 rfl (lv_at hl 0 rfl) ?_
      refine lv_bipush (v := 12) hx hb d_Sh_sizeOf_5 (by decide) ?_
      refine lv_icmp_ge (tgt := 27) hx hb d_Sh_sizeOf_7 (by decide) (fun c7 => ?_) (fun c7 => ?_)
      · have h7 : (12) ≤ (t) := (nI_leI (a := 12) (b := t) (by omega) (by omega)).mp c7
        refine lv_iload_n hx hb d_Sh_sizeOf_27 rfl (lv_at hl 1 rfl) ?_
        exact x_iret hsz hx hb hr hlk hw ⟨by rw [show t = 12 by omega], rfl⟩ d_Sh_sizeOf_28
      · have h7 : ¬ (12) ≤ (t) := fun hz9 => c7 ((nI_leI (a := 12) (b := t) (by omega) (by omega)).mpr hz9)
        refine lv_iload_n hx hb d_Sh_sizeOf_10 rfl (lv_at hl 1 rfl) ?_
        refine lv_aload_n hx hb d_Sh_sizeOf_11 rfl (lv_at hl 2 rfl) ?_
        refine x_get (ci := 4) (k := 1) hx hb ht in_Sh hown hw (by decide) o_Sh rfl 2 (by decide) (ht _ w_30) rfl d_Sh_sizeOf_12 ?_
        refine lv_iload_n hx hb d_Sh_sizeOf_15 rfl (lv_at hl 3 rfl) ?_
        refine x_aald (k := 11) (b := 22) (n := 16) (t0 := 3) hx hb hw (by decide) (fun _ => rfl) rfl rfl (vp_in_nI (by omega) (by decide)) d_Sh_sizeOf_16 ?_
        rw [nI_clamp (n := d) (by omega)]
        refine lv_iload_n hx hb d_Sh_sizeOf_17 rfl (lv_at hl 0 rfl) ?_
        refine x_iald (k := 22 + d) hx hb hw (by omega) (xk_cnt _ hd).1 (vin (N := 12) (by omega) (xk_cnt _ hd).2 (by omega)) d_Sh_sizeOf_18 ?_
        rw [nI_clamp (n := t) (by omega)]
        refine lv_iadd hx hb d_Sh_sizeOf_19 ?_
        refine lv_istore_n (lv' := [(2, .int ((sumF (u.1 (22 + d)) t) + (u.1 (22 + d) t))), (3, .int (nI t)), (0, .ref (ad 1)), (1, .int (nI d))]) hx hb d_Sh_sizeOf_20 rfl hl (by decide) rfl (fun ls hl => ?_)
        refine lv_iinc (v := (nI (t + 1))) (lv' := [(3, .int (nI (t + 1))), (2, .int ((sumF (u.1 (22 + d)) t) + (u.1 (22 + d) t))), (0, .ref (ad 1)), (1, .int (nI d))]) hx hb d_Sh_sizeOf_21 hl (k := 1) rfl (nI_1 _) (by decide) rfl (fun ls hl => ?_)
        refine lv_goto (tgt := 4) hx hb d_Sh_sizeOf_24 (by decide) ?_
        exact ih4 (t + 1) (by omega) (by omega) _ _ hw ls (lv_sub hl [0, 1, 2, 3] rfl)
  exact L4 ((12 - 0) + 1) (0) (by omega) (by omega) _ _ hw ls (lv_sub hl [0, 1, 2, 3] rfl))
set_option maxHeartbeats 4000000 in
set_option maxRecDepth 100000 in
theorem m_Arrays_fill {l : Launch} {D : va_G} {g : Ids} {ad : Nat → Nat} {u : St} (k : Nat) (x : Int32) (hk : k < 90) (h1 : xk k = 1) : XMv l D g ad y_Arrays_fill b_Arrays_fill 4 (none) (rmN 0 0) [.ref (ad k), .int x] u (fun w => w = fillF u k x (xn k)) := fun sz => x_met (by decide) (Nat.le_of_ble_eq_true rfl) (fun p e s m below meth c hsz hx hb hr hml hown ht hlk hw ls hl => by
  have hA : ∀ q, s.heap.size ≤ q → AX ad sz q := fun q h => Or.inr (hsz ▸ h)
  have hl : lv_has ls 4 [(0, .ref (ad k)), (1, .int x)] := hl
  have hN : xn k < 200 := xn_lt k
  refine lv_iconst (v := 0) hx hb d_Arrays_fill_0 (by decide) ?_
  refine lv_istore_n (lv' := [(2, .int 0), (0, .ref (ad k)), (1, .int x)]) hx hb d_Arrays_fill_1 rfl hl (by decide) rfl (fun ls hl => ?_)
  refine lv_aload_n hx hb d_Arrays_fill_2 rfl (lv_at hl 1 rfl) ?_
  refine x_alen (N := (xn k)) (k := k) hx hb hw hk h1 rfl d_Arrays_fill_3 ?_
  refine lv_istore_n (lv' := [(3, .int (nI ((xn k)))), (2, .int 0), (0, .ref (ad k)), (1, .int x)]) hx hb d_Arrays_fill_4 rfl hl (by decide) rfl (fun ls hl => ?_)
  have L5 : ∀ (n5 : Nat) (t : Nat), t ≤ xn k → xn k - t < n5 → ∀ (H : Heap) (locs : List Loc), XH D g ad (AX ad sz) s s.heap H locs (fillF u k x t) → ∀ ls : Array Slot, lv_has ls 4 [(3, .int (nI ((xn k)))), (2, .int (nI t)), (0, .ref (ad k)), (1, .int x)] → W p l e (rmN 0 0) s m ([.ref (ad k), .int x] : List Value).toArray below meth c H locs 0 0 (MQ below (va_Qv (fun w => w = fillF u k x (xn k)) (XB D g ad sz) (AX ad sz)) ([.ref (ad k), .int x] : List Value).toArray s 0 0 (AX ad sz)) (F0 m 5 ls []) := by
    intro n5
    induction n5 with
    | zero => intro t h2 hz; exact absurd hz (by omega)
    | succ n5 ih5 =>
      intro t h2 hnL5 H locs hw ls hl
      refine lv_iload_n hx hb d_Arrays_fill_5 rfl (lv_at hl 1 rfl) ?_
      refine lv_iload_n hx hb d_Arrays_fill_6 rfl (lv_at hl 0 rfl) ?_
      refine lv_icmp_ge (tgt := 20) hx hb d_Arrays_fill_7 (by decide) (fun c7 => ?_) (fun c7 => ?_)
      · have h7 : ((xn k)) ≤ (t) := (nI_leI (a := (xn k)) (b := t) (by omega) (by omega)).mp c7
        exact x_vret hsz hx hb hr hlk hw (by rw [show t = xn k by omega]) d_Arrays_fill_20
      · have h7 : ¬ ((xn k)) ≤ (t) := fun hz9 => c7 ((nI_leI (a := (xn k)) (b := t) (by omega) (by omega)).mpr hz9)
        refine lv_aload_n hx hb d_Arrays_fill_10 rfl (lv_at hl 2 rfl) ?_
        refine lv_iload_n hx hb d_Arrays_fill_11 rfl (lv_at hl 1 rfl) ?_
        refine lv_iload_n hx hb d_Arrays_fill_12 rfl (lv_at hl 3 rfl) ?_
        refine x_iast (k := k) hx hb hw hk h1 (vin (N := (xn k)) (by omega) rfl (by omega)) d_Arrays_fill_13 (fun H locs hw => ?_)
        rw [nI_clamp (n := t) (by omega)] at hw
        refine lv_iinc (v := (nI (t + 1))) (lv' := [(2, .int (nI (t + 1))), (3, .int (nI ((xn k)))), (0, .ref (ad k)), (1, .int x)]) hx hb d_Arrays_fill_14 hl (k := 1) rfl (nI_1 _) (by decide) rfl (fun ls hl => ?_)
        refine lv_goto (tgt := 5) hx hb d_Arrays_fill_17 (by decide) ?_
        exact ih5 (t + 1) (by omega) (by omega) _ _ (by rw [fillF_s] at hw; exact hw) ls (lv_sub hl [1, 0, 2, 3] rfl)
  exact L5 ((xn k - 0) + 1) (0) (by omega) (by omega) _ _ (by rw [fillF_0]; exact hw) ls (lv_sub hl [0, 1, 2, 3] rfl))
set_option maxHeartbeats 4000000 in
set_option maxRecDepth 100000 in
theorem m_Sh_holds {l : Launch} {D : va_G} {g : Ids} {ad : Nat → Nat} {u : St} (d : Int32) : XMi l D g ad y_Sh_holds b_Sh_holds 2 ((some .boolean)) (rmN 1 21) [.ref (ad 1), .int d] u (fun v w => v = holdsF u d ∧ w = u) := fun sz => x_met (by decide) (Nat.le_of_ble_eq_true rfl) (fun p e s m below meth c hsz hx hb hr hml hown ht hlk hw ls hl => by
  have hA : ∀ q, s.heap.size ≤ q → AX ad sz q := fun q h => Or.inr (hsz ▸ h)
  have hl : lv_has ls 2 [(0, .ref (ad 1)), (1, .int d)] := hl
  refine lv_iload_n hx hb d_Sh_holds_0 rfl (lv_at hl 1 rfl) ?_
  refine lv_bipush (v := 15) hx hb d_Sh_holds_1 (by decide) ?_
  refine x_ci (x_runSN (na := 2) (As := [.int d, .int 15]) (rest := []) ⟨hx, hb, hml, hown, ht⟩ (m_X_within d 15 _) hw.2.2.2.2 w_177 w_1 w_178 (by decide +kernel) ⟨rfl, rfl, by decide, by decide⟩ hw rfl hl.1 rfl (Nat.le_of_ble_eq_true rfl) d_Sh_holds_3 ⟨Nat.zero_le _, Nat.zero_le _⟩) hw hA (fun v3 u3 H locs hp hw => ?_)
  obtain ⟨hv9, hu⟩ := hp
  subst hv9
  have hu := hu.symm
  subst hu
  refine lv_if_eq (tgt := 22) hx hb d_Sh_holds_6 (by decide) (fun c6 => ?_) (fun c6 => ?_)
  · refine lv_iconst (v := 0) hx hb d_Sh_holds_22 (by decide) ?_
    exact x_zret hsz hx hb hr hlk hw rfl ⟨by unfold holdsF; first | (rw [if_pos c6]; done) | (rw [if_neg c6, if_pos c15]; done) | (rw [if_neg c6, if_neg c15]; done), rfl⟩ d_Sh_holds_23
  · refine lv_aload_n hx hb d_Sh_holds_9 rfl (lv_at hl 0 rfl) ?_
    refine x_get (ci := 4) (k := 1) hx hb ht in_Sh hown hw (by decide) o_Sh rfl 0 (by decide) (ht _ w_28) rfl d_Sh_holds_10 ?_
    refine lv_iload_n hx hb d_Sh_holds_13 rfl (lv_at hl 1 rfl) ?_
    refine x_zald (k := 9) hx hb hw (by decide) rfl (within_in c6 rfl) d_Sh_holds_14 ?_
    refine lv_if_eq (tgt := 22) hx hb d_Sh_holds_15 (by decide) (fun c15 => ?_) (fun c15 => ?_)
    · refine lv_iconst (v := 0) hx hb d_Sh_holds_22 (by decide) ?_
      exact x_zret hsz hx hb hr hlk hw rfl ⟨by unfold holdsF; first | (rw [if_pos c6]; done) | (rw [if_neg c6, if_pos c15]; done) | (rw [if_neg c6, if_neg c15]; done), rfl⟩ d_Sh_holds_23
    · refine lv_iconst (v := 1) hx hb d_Sh_holds_18 (by decide) ?_
      refine lv_goto (tgt := 23) hx hb d_Sh_holds_19 (by decide) ?_
      exact x_zret hsz hx hb hr hlk hw rfl ⟨by unfold holdsF; first | (rw [if_pos c6]; done) | (rw [if_neg c6, if_pos c15]; done) | (rw [if_neg c6, if_neg c15]; done), rfl⟩ d_Sh_holds_23)
set_option maxHeartbeats 4000000 in
set_option maxRecDepth 100000 in
theorem m_Sh_put {l : Launch} {D : va_G} {g : Ids} {ad : Nat → Nat} {u : St} (d : Nat) (q : Int32) (hd : d < 16) : XMv l D g ad y_Sh_put b_Sh_put 3 (none) (rmN 1 23) [.ref (ad 1), .int (nI d), .int q] u (fun w => w = fillF (sI (sI u 9 d 1) 10 d q) (22 + d) 0 12) := fun sz => x_met (by decide) (Nat.le_of_ble_eq_true rfl) (fun p e s m below meth c hsz hx hb hr hml hown ht hlk hw ls hl => by
  have hA : ∀ q, s.heap.size ≤ q → AX ad sz q := fun q h => Or.inr (hsz ▸ h)
  have hl : lv_has ls 3 [(0, .ref (ad 1)), (1, .int (nI d)), (2, .int q)] := hl
  refine lv_aload_n hx hb d_Sh_put_0 rfl (lv_at hl 0 rfl) ?_
  refine x_get (ci := 4) (k := 1) hx hb ht in_Sh hown hw (by decide) o_Sh rfl 0 (by decide) (ht _ w_28) rfl d_Sh_put_1 ?_
  refine lv_iload_n hx hb d_Sh_put_4 rfl (lv_at hl 1 rfl) ?_
  refine lv_iconst (v := 1) hx hb d_Sh_put_5 (by decide) ?_
  refine x_zast (k := 9) hx hb hw (by decide) rfl (vin (N := 16) (by omega) rfl (by omega)) d_Sh_put_6 (fun H locs hw => ?_)
  rw [nI_clamp (n := d) (by omega)] at hw
  rw [show (sI u 9 d (vp_nar .boolean 1)) = (sI u 9 d 1) from rfl] at hw
  refine lv_aload_n hx hb d_Sh_put_7 rfl (lv_at hl 0 rfl) ?_
  refine x_get (ci := 4) (k := 1) hx hb ht in_Sh hown hw (by decide) o_Sh rfl 1 (by decide) (ht _ w_29) rfl d_Sh_put_8 ?_
  refine lv_iload_n hx hb d_Sh_put_11 rfl (lv_at hl 1 rfl) ?_
  refine lv_iload_n hx hb d_Sh_put_12 rfl (lv_at hl 2 rfl) ?_
  refine x_iast (k := 10) hx hb hw (by decide) rfl (vin (N := 16) (by omega) rfl (by omega)) d_Sh_put_13 (fun H locs hw => ?_)
  rw [nI_clamp (n := d) (by omega)] at hw
  refine lv_aload_n hx hb d_Sh_put_14 rfl (lv_at hl 0 rfl) ?_
  refine x_get (ci := 4) (k := 1) hx hb ht in_Sh hown hw (by decide) o_Sh rfl 2 (by decide) (ht _ w_30) rfl d_Sh_put_15 ?_
  refine lv_iload_n hx hb d_Sh_put_18 rfl (lv_at hl 1 rfl) ?_
  refine x_aald (k := 11) (b := 22) (n := 16) (t0 := 3) hx hb hw (by decide) (fun _ => rfl) rfl rfl (vp_in_nI (by omega) (by decide)) d_Sh_put_19 ?_
  rw [nI_clamp (n := d) (by omega)]
  refine lv_iconst (v := 0) hx hb d_Sh_put_20 (by decide) ?_
  refine x_cv (x_runS (na := 2) (As := [.ref (ad (22 + d)), .int 0]) (rest := []) ⟨hx, hb, hml, hown, ht⟩ (m_Arrays_fill (22 + d) 0 (by omega) (xk_cnt d hd).1 _) w_183 w_47 w_4 w_48 (by decide +kernel) ⟨rfl, rfl, by decide, by decide⟩ hw rfl hl.1 rfl (Nat.le_of_ble_eq_true rfl) d_Sh_put_21 ⟨Nat.zero_le _, Nat.zero_le _⟩) hw hA (fun u21 H locs hp hw => ?_)
  have hu := hp.symm
  subst hu
  exact x_vret hsz hx hb hr hlk hw (by rw [(xk_cnt d hd).2]) d_Sh_put_24)
set_option maxHeartbeats 4000000 in
set_option maxRecDepth 100000 in
theorem m_Sh_drop {l : Launch} {D : va_G} {g : Ids} {ad : Nat → Nat} {u : St} (d : Nat) (hd : d < 16) : XMv l D g ad y_Sh_drop b_Sh_drop 2 (none) (rmN 0 0) [.ref (ad 1), .int (nI d)] u (fun w => w = sI u 9 d 0) := fun sz => x_met (by decide) (Nat.le_of_ble_eq_true rfl) (fun p e s m below meth c hsz hx hb hr hml hown ht hlk hw ls hl => by
  have hA : ∀ q, s.heap.size ≤ q → AX ad sz q := fun q h => Or.inr (hsz ▸ h)
  have hl : lv_has ls 2 [(0, .ref (ad 1)), (1, .int (nI d))] := hl
  refine lv_aload_n hx hb d_Sh_drop_0 rfl (lv_at hl 0 rfl) ?_
  refine x_get (ci := 4) (k := 1) hx hb ht in_Sh hown hw (by decide) o_Sh rfl 0 (by decide) (ht _ w_28) rfl d_Sh_drop_1 ?_
  refine lv_iload_n hx hb d_Sh_drop_4 rfl (lv_at hl 1 rfl) ?_
  refine lv_iconst (v := 0) hx hb d_Sh_drop_5 (by decide) ?_
  refine x_zast (k := 9) hx hb hw (by decide) rfl (vin (N := 16) (by omega) rfl (by omega)) d_Sh_drop_6 (fun H locs hw => ?_)
  rw [nI_clamp (n := d) (by omega)] at hw
  rw [show (sI u 9 d (vp_nar .boolean 0)) = (sI u 9 d 0) from rfl] at hw
  exact x_vret hsz hx hb hr hlk hw rfl d_Sh_drop_7)
set_option maxHeartbeats 4000000 in
set_option maxRecDepth 100000 in
theorem m_Sh_setCount {l : Launch} {D : va_G} {g : Ids} {ad : Nat → Nat} {u : St} (d : Nat) (t : Nat) (x : Int32) (hd : d < 16) (ht2 : t < 12) : XMv l D g ad y_Sh_setCount b_Sh_setCount 4 (none) (rmN 0 0) [.ref (ad 1), .int (nI d), .int (nI t), .int x] u (fun w => w = sI u (22 + d) t x) := fun sz => x_met (by decide) (Nat.le_of_ble_eq_true rfl) (fun p e s m below meth c hsz hx hb hr hml hown ht hlk hw ls hl => by
  have hA : ∀ q, s.heap.size ≤ q → AX ad sz q := fun q h => Or.inr (hsz ▸ h)
  have hl : lv_has ls 4 [(0, .ref (ad 1)), (1, .int (nI d)), (2, .int (nI t)), (3, .int x)] := hl
  refine lv_aload_n hx hb d_Sh_setCount_0 rfl (lv_at hl 0 rfl) ?_
  refine x_get (ci := 4) (k := 1) hx hb ht in_Sh hown hw (by decide) o_Sh rfl 2 (by decide) (ht _ w_30) rfl d_Sh_setCount_1 ?_
  refine lv_iload_n hx hb d_Sh_setCount_4 rfl (lv_at hl 1 rfl) ?_
  refine x_aald (k := 11) (b := 22) (n := 16) (t0 := 3) hx hb hw (by decide) (fun _ => rfl) rfl rfl (vp_in_nI (by omega) (by decide)) d_Sh_setCount_5 ?_
  rw [nI_clamp (n := d) (by omega)]
  refine lv_iload_n hx hb d_Sh_setCount_6 rfl (lv_at hl 2 rfl) ?_
  refine lv_iload_n hx hb d_Sh_setCount_7 rfl (lv_at hl 3 rfl) ?_
  refine x_iast (k := 22 + d) hx hb hw (by omega) (xk_cnt _ hd).1 (vin (N := 12) (by omega) (xk_cnt _ hd).2 (by omega)) d_Sh_setCount_8 (fun H locs hw => ?_)
  rw [nI_clamp (n := t) (by omega)] at hw
  exact x_vret hsz hx hb hr hlk hw rfl d_Sh_setCount_9)
set_option maxHeartbeats 4000000 in
set_option maxRecDepth 100000 in
theorem m_Sh_number {l : Launch} {D : va_G} {g : Ids} {ad : Nat → Nat} {u : St} : XMi l D g ad y_Sh_number b_Sh_number 3 ((some .int)) (rmN 0 0) [.ref (ad 1)] u (fun v w => v = cntF (u.1 9) 16 ∧ w = u) := fun sz => x_met (by decide) (Nat.le_of_ble_eq_true rfl) (fun p e s m below meth c hsz hx hb hr hml hown ht hlk hw ls hl => by
  have hA : ∀ q, s.heap.size ≤ q → AX ad sz q := fun q h => Or.inr (hsz ▸ h)
  have hl : lv_has ls 3 [(0, .ref (ad 1))] := hl
  refine lv_iconst (v := 0) hx hb d_Sh_number_0 (by decide) ?_
  refine lv_istore_n (lv' := [(1, .int 0), (0, .ref (ad 1))]) hx hb d_Sh_number_1 rfl hl (by decide) rfl (fun ls hl => ?_)
  refine lv_iconst (v := 0) hx hb d_Sh_number_2 (by decide) ?_
  refine lv_istore_n (lv' := [(2, .int 0), (1, .int 0), (0, .ref (ad 1))]) hx hb d_Sh_number_3 rfl hl (by decide) rfl (fun ls hl => ?_)
  have L4 : ∀ (n4 : Nat) (t : Nat), t ≤ 16 → 16 - t < n4 → ∀ (H : Heap) (locs : List Loc), XH D g ad (AX ad sz) s s.heap H locs u → ∀ ls : Array Slot, lv_has ls 3 [(2, .int (nI t)), (1, .int (cntF (u.1 9) t)), (0, .ref (ad 1))] → W p l e (rmN 0 0) s m ([.ref (ad 1)] : List Value).toArray below meth c H locs 0 0 (MQ below (va_Qi (fun v w => v = cntF (u.1 9) 16 ∧ w = u) (XB D g ad sz) (AX ad sz)) ([.ref (ad 1)] : List Value).toArray s 0 0 (AX ad sz)) (F0 m 4 ls []) := by
    intro n4
    induction n4 with
    | zero => intro t h1 hz; exact absurd hz (by omega)
    | succ n4 ih4 =>
      intro t h1 hnL4 H locs hw ls hl
      refine lv_iload_n hx hb d_Sh_number_4 rfl (lv_at hl 0 rfl) ?_
      refine lv_bipush (v := 16) hx hb d_Sh_number_5 (by decide) ?_
      refine lv_icmp_ge (tgt := 28) hx hb d_Sh_number_7 (by decide) (fun c7 => ?_) (fun c7 => ?_)
      · have h7 : (16) ≤ (t) := (nI_leI (a := 16) (b := t) (by omega) (by omega)).mp c7
        refine lv_iload_n hx hb d_Sh_number_28 rfl (lv_at hl 1 rfl) ?_
        exact x_iret hsz hx hb hr hlk hw ⟨by rw [show t = 16 by omega], rfl⟩ d_Sh_number_29
      · have h7 : ¬ (16) ≤ (t) := fun hz9 => c7 ((nI_leI (a := 16) (b := t) (by omega) (by omega)).mpr hz9)
        refine lv_aload_n hx hb d_Sh_number_10 rfl (lv_at hl 2 rfl) ?_
        refine x_get (ci := 4) (k := 1) hx hb ht in_Sh hown hw (by decide) o_Sh rfl 0 (by decide) (ht _ w_28) rfl d_Sh_number_11 ?_
        refine lv_iload_n hx hb d_Sh_number_14 rfl (lv_at hl 0 rfl) ?_
        refine x_zald (k := 9) hx hb hw (by decide) rfl (vin (N := 16) (by omega) rfl (by omega)) d_Sh_number_15 ?_
        rw [nI_clamp (n := t) (by omega)]
        refine lv_if_eq (tgt := 22) hx hb d_Sh_number_16 (by decide) (fun c16 => ?_) (fun c16 => ?_)
        · refine lv_iinc (v := (nI (t + 1))) (lv' := [(2, .int (nI (t + 1))), (1, .int (cntF (u.1 9) t)), (0, .ref (ad 1))]) hx hb d_Sh_number_22 hl (k := 0) rfl (nI_1 _) (by decide) rfl (fun ls hl => ?_)
          refine lv_goto (tgt := 4) hx hb d_Sh_number_25 (by decide) ?_
          exact ih4 (t + 1) (by omega) (by omega) _ _ hw ls (by rw [← (show (cntF (u.1 9) t) = (cntF (u.1 9) (t + 1)) from (by simp only [cntF]; first | rw [if_pos c16] | rw [if_neg c16]))]; exact lv_sub hl [0, 1, 2] rfl)
        · refine lv_iinc (v := ((cntF (u.1 9) t) + 1)) (lv' := [(1, .int ((cntF (u.1 9) t) + 1)), (2, .int (nI t)), (0, .ref (ad 1))]) hx hb d_Sh_number_19 hl (k := 1) rfl rfl (by decide) rfl (fun ls hl => ?_)
          refine lv_iinc (v := (nI (t + 1))) (lv' := [(2, .int (nI (t + 1))), (1, .int ((cntF (u.1 9) t) + 1)), (0, .ref (ad 1))]) hx hb d_Sh_number_22 hl (k := 1) rfl (nI_1 _) (by decide) rfl (fun ls hl => ?_)
          refine lv_goto (tgt := 4) hx hb d_Sh_number_25 (by decide) ?_
          exact ih4 (t + 1) (by omega) (by omega) _ _ hw ls (by rw [← (show ((cntF (u.1 9) t) + 1) = (cntF (u.1 9) (t + 1)) from (by simp only [cntF]; first | rw [if_pos c16] | rw [if_neg c16]))]; exact lv_sub hl [0, 1, 2] rfl)
  exact L4 ((16 - 0) + 1) (0) (by omega) (by omega) _ _ hw ls (lv_sub hl [0, 1, 2] rfl))
set_option maxHeartbeats 4000000 in
set_option maxRecDepth 100000 in
theorem m_Sh_sumOfSizes {l : Launch} {D : va_G} {g : Ids} {ad : Nat → Nat} {u : St} : XMi l D g ad y_Sh_sumOfSizes b_Sh_sumOfSizes 3 ((some .int)) (rmN 1 23) [.ref (ad 1)] u (fun v w => v = sizesF u 16 ∧ w = u) := fun sz => x_met (by decide) (Nat.le_of_ble_eq_true rfl) (fun p e s m below meth c hsz hx hb hr hml hown ht hlk hw ls hl => by
  have hA : ∀ q, s.heap.size ≤ q → AX ad sz q := fun q h => Or.inr (hsz ▸ h)
  have hl : lv_has ls 3 [(0, .ref (ad 1))] := hl
  refine lv_iconst (v := 0) hx hb d_Sh_sumOfSizes_0 (by decide) ?_
  refine lv_istore_n (lv' := [(1, .int 0), (0, .ref (ad 1))]) hx hb d_Sh_sumOfSizes_1 rfl hl (by decide) rfl (fun ls hl => ?_)
  refine lv_iconst (v := 0) hx hb d_Sh_sumOfSizes_2 (by decide) ?_
  refine lv_istore_n (lv' := [(2, .int 0), (1, .int 0), (0, .ref (ad 1))]) hx hb d_Sh_sumOfSizes_3 rfl hl (by decide) rfl (fun ls hl => ?_)
  have L4 : ∀ (n4 : Nat) (t : Nat), t ≤ 16 → 16 - t < n4 → ∀ (H : Heap) (locs : List Loc), XH D g ad (AX ad sz) s s.heap H locs u → ∀ ls : Array Slot, lv_has ls 3 [(2, .int (nI t)), (1, .int (sizesF u t)), (0, .ref (ad 1))] → W p l e (rmN 1 23) s m ([.ref (ad 1)] : List Value).toArray below meth c H locs 0 0 (MQ below (va_Qi (fun v w => v = sizesF u 16 ∧ w = u) (XB D g ad sz) (AX ad sz)) ([.ref (ad 1)] : List Value).toArray s 0 0 (AX ad sz)) (F0 m 4 ls []) := by
    intro n4
    induction n4 with
    | zero => intro t h1 hz; exact absurd hz (by omega)
    | succ n4 ih4 =>
      intro t h1 hnL4 H locs hw ls hl
      refine lv_iload_n hx hb d_Sh_sumOfSizes_4 rfl (lv_at hl 0 rfl) ?_
      refine lv_bipush (v := 16) hx hb d_Sh_sumOfSizes_5 (by decide) ?_
      refine lv_icmp_ge (tgt := 33) hx hb d_Sh_sumOfSizes_7 (by decide) (fun c7 => ?_) (fun c7 => ?_)
      · have h7 : (16) ≤ (t) := (nI_leI (a := 16) (b := t) (by omega) (by omega)).mp c7
        refine lv_iload_n hx hb d_Sh_sumOfSizes_33 rfl (lv_at hl 1 rfl) ?_
        exact x_iret hsz hx hb hr hlk hw ⟨by rw [show t = 16 by omega], rfl⟩ d_Sh_sumOfSizes_34
      · have h7 : ¬ (16) ≤ (t) := fun hz9 => c7 ((nI_leI (a := 16) (b := t) (by omega) (by omega)).mpr hz9)
        refine lv_aload_n hx hb d_Sh_sumOfSizes_10 rfl (lv_at hl 2 rfl) ?_
        refine x_get (ci := 4) (k := 1) hx hb ht in_Sh hown hw (by decide) o_Sh rfl 0 (by decide) (ht _ w_28) rfl d_Sh_sumOfSizes_11 ?_
        refine lv_iload_n hx hb d_Sh_sumOfSizes_14 rfl (lv_at hl 0 rfl) ?_
        refine x_zald (k := 9) hx hb hw (by decide) rfl (vin (N := 16) (by omega) rfl (by omega)) d_Sh_sumOfSizes_15 ?_
        rw [nI_clamp (n := t) (by omega)]
        refine lv_if_eq (tgt := 27) hx hb d_Sh_sumOfSizes_16 (by decide) (fun c16 => ?_) (fun c16 => ?_)
        · refine lv_iinc (v := (nI (t + 1))) (lv' := [(2, .int (nI (t + 1))), (1, .int (sizesF u t)), (0, .ref (ad 1))]) hx hb d_Sh_sumOfSizes_27 hl (k := 0) rfl (nI_1 _) (by decide) rfl (fun ls hl => ?_)
          refine lv_goto (tgt := 4) hx hb d_Sh_sumOfSizes_30 (by decide) ?_
          exact ih4 (t + 1) (by omega) (by omega) _ _ hw ls (by rw [← (show (sizesF u t) = (sizesF u (t + 1)) from (by simp only [sizesF]; first | rw [if_pos c16] | rw [if_neg c16]))]; exact lv_sub hl [0, 1, 2] rfl)
        · refine lv_iload_n hx hb d_Sh_sumOfSizes_19 rfl (lv_at hl 1 rfl) ?_
          refine lv_aload_n hx hb d_Sh_sumOfSizes_20 rfl (lv_at hl 2 rfl) ?_
          refine lv_iload_n hx hb d_Sh_sumOfSizes_21 rfl (lv_at hl 0 rfl) ?_
          refine x_ci (x_runV (na := 1) (k := 1) (As := [.int (nI t)]) (rest := [.int (sizesF u t)]) (ci := 4) ⟨hx, hb, hml, hown, ht⟩ (m_Sh_sizeOf t (by omega) _) w_259 w_261 s_2 w_2 w_262 (by decide +kernel) ⟨rfl, rfl, by decide, by decide⟩ hw (by decide) o_Sh rfl rfl hl.1 rfl (Nat.le_of_ble_eq_true rfl) d_Sh_sumOfSizes_22 ⟨Nat.zero_le _, Nat.zero_le _⟩) hw hA (fun v22 u22 H locs hp hw => ?_)
          obtain ⟨hv9, hu⟩ := hp
          subst hv9
          have hu := hu.symm
          subst hu
          refine lv_iadd hx hb d_Sh_sumOfSizes_25 ?_
          refine lv_istore_n (lv' := [(1, .int ((sizesF u t) + (sumF (u.1 (22 + t)) 12))), (2, .int (nI t)), (0, .ref (ad 1))]) hx hb d_Sh_sumOfSizes_26 rfl hl (by decide) rfl (fun ls hl => ?_)
          refine lv_iinc (v := (nI (t + 1))) (lv' := [(2, .int (nI (t + 1))), (1, .int ((sizesF u t) + (sumF (u.1 (22 + t)) 12))), (0, .ref (ad 1))]) hx hb d_Sh_sumOfSizes_27 hl (k := 1) rfl (nI_1 _) (by decide) rfl (fun ls hl => ?_)
          refine lv_goto (tgt := 4) hx hb d_Sh_sumOfSizes_30 (by decide) ?_
          exact ih4 (t + 1) (by omega) (by omega) _ _ hw ls (by rw [← (show ((sizesF u t) + (sumF (u.1 (22 + t)) 12)) = (sizesF u (t + 1)) from (by simp only [sizesF]; first | rw [if_pos c16] | rw [if_neg c16]))]; exact lv_sub hl [0, 1, 2] rfl)
  exact L4 ((16 - 0) + 1) (0) (by omega) (by omega) _ _ hw ls (lv_sub hl [0, 1, 2] rfl))
set_option maxHeartbeats 4000000 in
set_option maxRecDepth 100000 in
theorem m_Ju_gradeOf {l : Launch} {D : va_G} {g : Ids} {ad : Nat → Nat} {u : St} (q : Nat) (d : Nat) (hq : q < 8) (hd : d < 16) : XMi l D g ad y_Ju_gradeOf b_Ju_gradeOf 3 ((some .int)) (rmN 0 0) [.ref (ad 3), .int (nI q), .int (nI d)] u (fun v w => v = u.1 12 (q * 16 + d) ∧ w = u) := fun sz => x_met (by decide) (Nat.le_of_ble_eq_true rfl) (fun p e s m below meth c hsz hx hb hr hml hown ht hlk hw ls hl => by
  have hA : ∀ q, s.heap.size ≤ q → AX ad sz q := fun q h => Or.inr (hsz ▸ h)
  have hl : lv_has ls 3 [(0, .ref (ad 3)), (1, .int (nI q)), (2, .int (nI d))] := hl
  refine lv_aload_n hx hb d_Ju_gradeOf_0 rfl (lv_at hl 0 rfl) ?_
  refine x_get (ci := 2) (k := 3) hx hb ht in_Ju hown hw (by decide) o_Ju rfl 0 (by decide) (ht _ w_49) rfl d_Ju_gradeOf_1 ?_
  refine lv_iload_n hx hb d_Ju_gradeOf_4 rfl (lv_at hl 1 rfl) ?_
  refine lv_bipush (v := 16) hx hb d_Ju_gradeOf_5 (by decide) ?_
  refine lv_imul hx hb d_Ju_gradeOf_7 ?_
  rw [show ((nI q) * 16) = (nI (q * 16)) from pk_mul _ _]
  refine lv_iload_n hx hb d_Ju_gradeOf_8 rfl (lv_at hl 2 rfl) ?_
  refine lv_iadd hx hb d_Ju_gradeOf_9 ?_
  rw [show ((nI (q * 16)) + (nI d)) = (nI (q * 16 + d)) from nI_add _ _]
  refine x_iald (k := 12) hx hb hw (by decide) rfl (vin (N := 128) (by omega) rfl (by omega)) d_Ju_gradeOf_10 ?_
  rw [nI_clamp (n := q * 16 + d) (by omega)]
  exact x_iret hsz hx hb hr hlk hw ⟨rfl, rfl⟩ d_Ju_gradeOf_11)
set_option maxHeartbeats 4000000 in
set_option maxRecDepth 100000 in
theorem m_Ju_sumOfGrades {l : Launch} {D : va_G} {g : Ids} {ad : Nat → Nat} {u : St} : XMi l D g ad y_Ju_sumOfGrades b_Ju_sumOfGrades 3 ((some .int)) (rmN 0 0) [.ref (ad 3)] u (fun v w => v = gsumF (u.1 12) 128 ∧ w = u) := fun sz => x_met (by decide) (Nat.le_of_ble_eq_true rfl) (fun p e s m below meth c hsz hx hb hr hml hown ht hlk hw ls hl => by
  have hA : ∀ q, s.heap.size ≤ q → AX ad sz q := fun q h => Or.inr (hsz ▸ h)
  have hl : lv_has ls 3 [(0, .ref (ad 3))] := hl
  refine lv_iconst (v := 0) hx hb d_Ju_sumOfGrades_0 (by decide) ?_
  refine lv_istore_n (lv' := [(1, .int 0), (0, .ref (ad 3))]) hx hb d_Ju_sumOfGrades_1 rfl hl (by decide) rfl (fun ls hl => ?_)
  refine lv_iconst (v := 0) hx hb d_Ju_sumOfGrades_2 (by decide) ?_
  refine lv_istore_n (lv' := [(2, .int 0), (1, .int 0), (0, .ref (ad 3))]) hx hb d_Ju_sumOfGrades_3 rfl hl (by decide) rfl (fun ls hl => ?_)
  have L4 : ∀ (n4 : Nat) (t : Nat), t ≤ 128 → 128 - t < n4 → ∀ (H : Heap) (locs : List Loc), XH D g ad (AX ad sz) s s.heap H locs u → ∀ ls : Array Slot, lv_has ls 3 [(2, .int (nI t)), (1, .int (gsumF (u.1 12) t)), (0, .ref (ad 3))] → W p l e (rmN 0 0) s m ([.ref (ad 3)] : List Value).toArray below meth c H locs 0 0 (MQ below (va_Qi (fun v w => v = gsumF (u.1 12) 128 ∧ w = u) (XB D g ad sz) (AX ad sz)) ([.ref (ad 3)] : List Value).toArray s 0 0 (AX ad sz)) (F0 m 4 ls []) := by
    intro n4
    induction n4 with
    | zero => intro t h1 hz; exact absurd hz (by omega)
    | succ n4 ih4 =>
      intro t h1 hnL4 H locs hw ls hl
      refine lv_iload_n hx hb d_Ju_sumOfGrades_4 rfl (lv_at hl 0 rfl) ?_
      refine lv_aload_n hx hb d_Ju_sumOfGrades_5 rfl (lv_at hl 2 rfl) ?_
      refine x_get (ci := 2) (k := 3) hx hb ht in_Ju hown hw (by decide) o_Ju rfl 0 (by decide) (ht _ w_49) rfl d_Ju_sumOfGrades_6 ?_
      refine x_alen (N := 128) (k := 12) hx hb hw (by decide) rfl rfl d_Ju_sumOfGrades_9 ?_
      refine lv_icmp_ge (tgt := 38) hx hb d_Ju_sumOfGrades_10 (by decide) (fun c10 => ?_) (fun c10 => ?_)
      · have h10 : (128) ≤ (t) := (nI_leI (a := 128) (b := t) (by omega) (by omega)).mp c10
        refine lv_iload_n hx hb d_Ju_sumOfGrades_38 rfl (lv_at hl 1 rfl) ?_
        exact x_iret hsz hx hb hr hlk hw ⟨by rw [show t = 128 by omega], rfl⟩ d_Ju_sumOfGrades_39
      · have h10 : ¬ (128) ≤ (t) := fun hz9 => c10 ((nI_leI (a := 128) (b := t) (by omega) (by omega)).mpr hz9)
        refine lv_aload_n hx hb d_Ju_sumOfGrades_13 rfl (lv_at hl 2 rfl) ?_
        refine x_get (ci := 2) (k := 3) hx hb ht in_Ju hown hw (by decide) o_Ju rfl 0 (by decide) (ht _ w_49) rfl d_Ju_sumOfGrades_14 ?_
        refine lv_iload_n hx hb d_Ju_sumOfGrades_17 rfl (lv_at hl 0 rfl) ?_
        refine x_iald (k := 12) hx hb hw (by decide) rfl (vin (N := 128) (by omega) rfl (by omega)) d_Ju_sumOfGrades_18 ?_
        rw [nI_clamp (n := t) (by omega)]
        refine lv_iconst (v := (-1)) hx hb d_Ju_sumOfGrades_19 (by decide) ?_
        refine lv_icmp_eq (tgt := 32) hx hb d_Ju_sumOfGrades_20 (by decide) (fun c20 => ?_) (fun c20 => ?_)
        · refine lv_iinc (v := (nI (t + 1))) (lv' := [(2, .int (nI (t + 1))), (1, .int (gsumF (u.1 12) t)), (0, .ref (ad 3))]) hx hb d_Ju_sumOfGrades_32 hl (k := 0) rfl (nI_1 _) (by decide) rfl (fun ls hl => ?_)
          refine lv_goto (tgt := 4) hx hb d_Ju_sumOfGrades_35 (by decide) ?_
          exact ih4 (t + 1) (by omega) (by omega) _ _ hw ls (by rw [← (show (gsumF (u.1 12) t) = (gsumF (u.1 12) (t + 1)) from (by simp only [gsumF]; first | rw [if_pos c20] | rw [if_neg c20]))]; exact lv_sub hl [0, 1, 2] rfl)
        · refine lv_iload_n hx hb d_Ju_sumOfGrades_23 rfl (lv_at hl 1 rfl) ?_
          refine lv_aload_n hx hb d_Ju_sumOfGrades_24 rfl (lv_at hl 2 rfl) ?_
          refine x_get (ci := 2) (k := 3) hx hb ht in_Ju hown hw (by decide) o_Ju rfl 0 (by decide) (ht _ w_49) rfl d_Ju_sumOfGrades_25 ?_
          refine lv_iload_n hx hb d_Ju_sumOfGrades_28 rfl (lv_at hl 0 rfl) ?_
          refine x_iald (k := 12) hx hb hw (by decide) rfl (vin (N := 128) (by omega) rfl (by omega)) d_Ju_sumOfGrades_29 ?_
          rw [nI_clamp (n := t) (by omega)]
          refine lv_iadd hx hb d_Ju_sumOfGrades_30 ?_
          refine lv_istore_n (lv' := [(1, .int ((gsumF (u.1 12) t) + (u.1 12 t))), (2, .int (nI t)), (0, .ref (ad 3))]) hx hb d_Ju_sumOfGrades_31 rfl hl (by decide) rfl (fun ls hl => ?_)
          refine lv_iinc (v := (nI (t + 1))) (lv' := [(2, .int (nI (t + 1))), (1, .int ((gsumF (u.1 12) t) + (u.1 12 t))), (0, .ref (ad 3))]) hx hb d_Ju_sumOfGrades_32 hl (k := 1) rfl (nI_1 _) (by decide) rfl (fun ls hl => ?_)
          refine lv_goto (tgt := 4) hx hb d_Ju_sumOfGrades_35 (by decide) ?_
          exact ih4 (t + 1) (by omega) (by omega) _ _ hw ls (by rw [← (show ((gsumF (u.1 12) t) + (u.1 12 t)) = (gsumF (u.1 12) (t + 1)) from (by simp only [gsumF]; first | rw [if_pos c20] | rw [if_neg c20]))]; exact lv_sub hl [0, 1, 2] rfl)
  exact L4 ((128 - 0) + 1) (0) (by omega) (by omega) _ _ hw ls (lv_sub hl [0, 1, 2] rfl))
set_option maxHeartbeats 4000000 in
set_option maxRecDepth 100000 in
theorem m_Ju_set {l : Launch} {D : va_G} {g : Ids} {ad : Nat → Nat} {u : St} (q : Nat) (d : Nat) (x : Int32) (hq : q < 8) (hd : d < 16) : XMv l D g ad y_Ju_set b_Ju_set 5 (none) (rmN 0 0) [.ref (ad 3), .int (nI q), .int (nI d), .int x] u (fun w => w = jsetF u (q * 16 + d) x) := fun sz => x_met (by decide) (Nat.le_of_ble_eq_true rfl) (fun p e s m below meth c hsz hx hb hr hml hown ht hlk hw ls hl => by
  have hA : ∀ q, s.heap.size ≤ q → AX ad sz q := fun q h => Or.inr (hsz ▸ h)
  have hl : lv_has ls 5 [(0, .ref (ad 3)), (1, .int (nI q)), (2, .int (nI d)), (3, .int x)] := hl
  refine lv_iload_n hx hb d_Ju_set_0 rfl (lv_at hl 1 rfl) ?_
  refine lv_bipush (v := 16) hx hb d_Ju_set_1 (by decide) ?_
  refine lv_imul hx hb d_Ju_set_3 ?_
  rw [show ((nI q) * 16) = (nI (q * 16)) from pk_mul _ _]
  refine lv_iload_n hx hb d_Ju_set_4 rfl (lv_at hl 2 rfl) ?_
  refine lv_iadd hx hb d_Ju_set_5 ?_
  rw [show ((nI (q * 16)) + (nI d)) = (nI (q * 16 + d)) from nI_add _ _]
  refine lv_istore (lv' := [(4, .int (nI (q * 16 + d))), (0, .ref (ad 3)), (1, .int (nI q)), (2, .int (nI d)), (3, .int x)]) hx hb d_Ju_set_6 hl (by decide) rfl (fun ls hl => ?_)
  refine lv_aload_n hx hb d_Ju_set_8 rfl (lv_at hl 1 rfl) ?_
  refine x_get (ci := 2) (k := 3) hx hb ht in_Ju hown hw (by decide) o_Ju rfl 0 (by decide) (ht _ w_49) rfl d_Ju_set_9 ?_
  refine lv_iload hx hb d_Ju_set_12 (lv_at hl 0 rfl) ?_
  refine x_iald (k := 12) hx hb hw (by decide) rfl (vin (N := 128) (by omega) rfl (by omega)) d_Ju_set_14 ?_
  rw [nI_clamp (n := q * 16 + d) (by omega)]
  refine lv_iconst (v := (-1)) hx hb d_Ju_set_15 (by decide) ?_
  refine lv_icmp_eq (tgt := 29) hx hb d_Ju_set_16 (by decide) (fun c16 => ?_) (fun c16 => ?_)
  · refine lv_iload_n hx hb d_Ju_set_29 rfl (lv_at hl 4 rfl) ?_
    refine lv_iconst (v := (-1)) hx hb d_Ju_set_30 (by decide) ?_
    refine lv_icmp_eq (tgt := 44) hx hb d_Ju_set_31 (by decide) (fun c31 => ?_) (fun c31 => ?_)
    · refine lv_aload_n hx hb d_Ju_set_44 rfl (lv_at hl 1 rfl) ?_
      refine x_get (ci := 2) (k := 3) hx hb ht in_Ju hown hw (by decide) o_Ju rfl 0 (by decide) (ht _ w_49) rfl d_Ju_set_45 ?_
      refine lv_iload hx hb d_Ju_set_48 (lv_at hl 0 rfl) ?_
      refine lv_iload_n hx hb d_Ju_set_50 rfl (lv_at hl 4 rfl) ?_
      refine x_iast (k := 12) hx hb hw (by decide) rfl (vin (N := 128) (by omega) rfl (by omega)) d_Ju_set_51 (fun H locs hw => ?_)
      rw [nI_clamp (n := q * 16 + d) (by omega)] at hw
      exact x_vret hsz hx hb hr hlk hw (by unfold jsetF jset2 jset1; first | (rw [if_pos c16, if_pos c31]; done) | (rw [if_pos c16, if_neg c31]; done) | (rw [if_neg c16, if_pos c31]; done) | (rw [if_neg c16, if_neg c31]; done) | (simp only [if_neg c16, if_neg c31]; done)) d_Ju_set_52
    · refine lv_aload_n hx hb d_Ju_set_34 rfl (lv_at hl 1 rfl) ?_
      refine lv_dup hx hb d_Ju_set_35 rfl ?_
      refine x_get (ci := 2) (k := 3) hx hb ht in_Ju hown hw (by decide) o_Ju rfl 1 (by decide) (ht _ w_50) rfl d_Ju_set_36 ?_
      refine lv_iconst (v := 1) hx hb d_Ju_set_39 (by decide) ?_
      refine lv_iadd hx hb d_Ju_set_40 ?_
      refine x_puti (ci := 2) (k := 3) hx hb ht in_Ju t_Ju t_Ju_ok n_Ju hown hw (by decide) o_Ju rfl 1 (1) (by decide) (ht _ w_50) rfl (by decide +kernel) (Nat.le_of_ble_eq_true rfl) rfl rfl d_Ju_set_41 (fun H locs hw => ?_)
      refine lv_aload_n hx hb d_Ju_set_44 rfl (lv_at hl 1 rfl) ?_
      refine x_get (ci := 2) (k := 3) hx hb ht in_Ju hown hw (by decide) o_Ju rfl 0 (by decide) (ht _ w_49) rfl d_Ju_set_45 ?_
      refine lv_iload hx hb d_Ju_set_48 (lv_at hl 0 rfl) ?_
      refine lv_iload_n hx hb d_Ju_set_50 rfl (lv_at hl 4 rfl) ?_
      refine x_iast (k := 12) hx hb hw (by decide) rfl (vin (N := 128) (by omega) rfl (by omega)) d_Ju_set_51 (fun H locs hw => ?_)
      rw [nI_clamp (n := q * 16 + d) (by omega)] at hw
      exact x_vret hsz hx hb hr hlk hw (by unfold jsetF jset2 jset1; first | (rw [if_pos c16, if_pos c31]; done) | (rw [if_pos c16, if_neg c31]; done) | (rw [if_neg c16, if_pos c31]; done) | (rw [if_neg c16, if_neg c31]; done) | (simp only [if_neg c16, if_neg c31]; done)) d_Ju_set_52
  · refine lv_aload_n hx hb d_Ju_set_19 rfl (lv_at hl 1 rfl) ?_
    refine lv_dup hx hb d_Ju_set_20 rfl ?_
    refine x_get (ci := 2) (k := 3) hx hb ht in_Ju hown hw (by decide) o_Ju rfl 1 (by decide) (ht _ w_50) rfl d_Ju_set_21 ?_
    refine lv_iconst (v := 1) hx hb d_Ju_set_24 (by decide) ?_
    refine lv_isub hx hb d_Ju_set_25 ?_
    refine x_puti (ci := 2) (k := 3) hx hb ht in_Ju t_Ju t_Ju_ok n_Ju hown hw (by decide) o_Ju rfl 1 (1) (by decide) (ht _ w_50) rfl (by decide +kernel) (Nat.le_of_ble_eq_true rfl) rfl rfl d_Ju_set_26 (fun H locs hw => ?_)
    refine lv_iload_n hx hb d_Ju_set_29 rfl (lv_at hl 4 rfl) ?_
    refine lv_iconst (v := (-1)) hx hb d_Ju_set_30 (by decide) ?_
    refine lv_icmp_eq (tgt := 44) hx hb d_Ju_set_31 (by decide) (fun c31 => ?_) (fun c31 => ?_)
    · refine lv_aload_n hx hb d_Ju_set_44 rfl (lv_at hl 1 rfl) ?_
      refine x_get (ci := 2) (k := 3) hx hb ht in_Ju hown hw (by decide) o_Ju rfl 0 (by decide) (ht _ w_49) rfl d_Ju_set_45 ?_
      refine lv_iload hx hb d_Ju_set_48 (lv_at hl 0 rfl) ?_
      refine lv_iload_n hx hb d_Ju_set_50 rfl (lv_at hl 4 rfl) ?_
      refine x_iast (k := 12) hx hb hw (by decide) rfl (vin (N := 128) (by omega) rfl (by omega)) d_Ju_set_51 (fun H locs hw => ?_)
      rw [nI_clamp (n := q * 16 + d) (by omega)] at hw
      exact x_vret hsz hx hb hr hlk hw (by unfold jsetF jset2 jset1; first | (rw [if_pos c16, if_pos c31]; done) | (rw [if_pos c16, if_neg c31]; done) | (rw [if_neg c16, if_pos c31]; done) | (rw [if_neg c16, if_neg c31]; done) | (simp only [if_neg c16, if_neg c31]; done)) d_Ju_set_52
    · refine lv_aload_n hx hb d_Ju_set_34 rfl (lv_at hl 1 rfl) ?_
      refine lv_dup hx hb d_Ju_set_35 rfl ?_
      refine x_get (ci := 2) (k := 3) hx hb ht in_Ju hown hw (by decide) o_Ju rfl 1 (by decide) (ht _ w_50) rfl d_Ju_set_36 ?_
      refine lv_iconst (v := 1) hx hb d_Ju_set_39 (by decide) ?_
      refine lv_iadd hx hb d_Ju_set_40 ?_
      refine x_puti (ci := 2) (k := 3) hx hb ht in_Ju t_Ju t_Ju_ok n_Ju hown hw (by decide) o_Ju rfl 1 (1) (by decide) (ht _ w_50) rfl (by decide +kernel) (Nat.le_of_ble_eq_true rfl) rfl rfl d_Ju_set_41 (fun H locs hw => ?_)
      refine lv_aload_n hx hb d_Ju_set_44 rfl (lv_at hl 1 rfl) ?_
      refine x_get (ci := 2) (k := 3) hx hb ht in_Ju hown hw (by decide) o_Ju rfl 0 (by decide) (ht _ w_49) rfl d_Ju_set_45 ?_
      refine lv_iload hx hb d_Ju_set_48 (lv_at hl 0 rfl) ?_
      refine lv_iload_n hx hb d_Ju_set_50 rfl (lv_at hl 4 rfl) ?_
      refine x_iast (k := 12) hx hb hw (by decide) rfl (vin (N := 128) (by omega) rfl (by omega)) d_Ju_set_51 (fun H locs hw => ?_)
      rw [nI_clamp (n := q * 16 + d) (by omega)] at hw
      exact x_vret hsz hx hb hr hlk hw (by unfold jsetF jset2 jset1; first | (rw [if_pos c16, if_pos c31]; done) | (rw [if_pos c16, if_neg c31]; done) | (rw [if_neg c16, if_pos c31]; done) | (rw [if_neg c16, if_neg c31]; done) | (simp only [if_neg c16, if_neg c31]; done)) d_Ju_set_52)
