def isAbF (x : Int32) : Int32 := if x = -2 then 1 else 0
def isLfF (x : Int32) : Int32 := if x = -1 then 1 else 0
def isSpF (x : Int32) : Int32 := if x < 0 then 0 else 1
def stepN (th x : Nat → Int32) (n f : Nat) : Nat := if th n < x f then 2 * n + 2 else 2 * n + 1
set_option maxHeartbeats 4000000 in
set_option maxRecDepth 100000 in
theorem m_Tr_clear {l : Launch} {D : va_G} {g : Ids} {ad : Nat → Nat} {u : St} (t : Nat) (ht4 : t < 4) : XMv l D g ad y_Tr_clear b_Tr_clear 1 (none) (rmN 1 23) [.ref (ad (59 + t))] u (fun w => w = fillF u (63 + t) (-2) 7) := fun sz => x_met (by decide) (Nat.le_of_ble_eq_true rfl) (fun p e s m below meth c hsz hx hb hr hml hown ht hlk hw ls hl => by
  have hA : ∀ q, s.heap.size ≤ q → AX ad sz q := fun q h => Or.inr (hsz ▸ h)
  have hl : lv_has ls 1 [(0, .ref (ad (59 + t)))] := hl
  refine lv_aload_n hx hb d_Tr_clear_0 rfl (lv_at hl 0 rfl) ?_
  refine x_get (ci := 5) (k := 59 + t) hx hb ht in_Tr hown hw (by omega) (o_Tr ht4) rfl 0 (by decide) (ht _ w_69) rfl d_Tr_clear_1 ?_
  refine lv_bipush (v := (-2)) hx hb d_Tr_clear_4 (by decide) ?_
  refine x_cv (x_runS (na := 2) (As := [.ref (ad (63 + t)), .int (-2)]) (rest := []) ⟨hx, hb, hml, hown, ht⟩ (m_Arrays_fill (63 + t) (-2) (by omega) (xk_tr t ht4).2.1 _) w_287 w_47 w_4 w_48 (by decide +kernel) ⟨rfl, rfl, by decide, by decide⟩ hw rfl hl.1 rfl (Nat.le_of_ble_eq_true rfl) d_Tr_clear_6 ⟨Nat.zero_le _, Nat.zero_le _⟩) hw hA (fun u6 H locs hp hw => ?_)
  have hu := hp.symm
  subst hu
  exact x_vret hsz hx hb hr hlk hw (by rw [(xk_tr t ht4).2.2.2.2.1]) d_Tr_clear_9)
set_option maxHeartbeats 4000000 in
set_option maxRecDepth 100000 in
theorem m_Tr_makeLeaf {l : Launch} {D : va_G} {g : Ids} {ad : Nat → Nat} {u : St} (t : Nat) (n : Nat) (x : Int64) (ht4 : t < 4) (hn7 : n < 7) : XMv l D g ad y_Tr_makeLeaf b_Tr_makeLeaf 4 (none) (rmN 0 0) [.ref (ad (59 + t)), .int (nI n), .long x] u (fun w => w = sL (sI (sI u (63 + t) n (-1)) (67 + t) n (-1)) (71 + t) n x) := fun sz => x_met (by decide) (Nat.le_of_ble_eq_true rfl) (fun p e s m below meth c hsz hx hb hr hml hown ht hlk hw ls hl => by
  have hA : ∀ q, s.heap.size ≤ q → AX ad sz q := fun q h => Or.inr (hsz ▸ h)
  have hl : lv_has ls 4 [(0, .ref (ad (59 + t))), (1, .int (nI n)), (2, .long x)] := hl
  refine lv_aload_n hx hb d_Tr_makeLeaf_0 rfl (lv_at hl 0 rfl) ?_
  refine x_get (ci := 5) (k := 59 + t) hx hb ht in_Tr hown hw (by omega) (o_Tr ht4) rfl 0 (by decide) (ht _ w_69) rfl d_Tr_makeLeaf_1 ?_
  refine lv_iload_n hx hb d_Tr_makeLeaf_4 rfl (lv_at hl 1 rfl) ?_
  refine lv_iconst (v := (-1)) hx hb d_Tr_makeLeaf_5 (by decide) ?_
  refine x_iast (k := 63 + t) hx hb hw (by omega) (xk_tr _ ht4).2.1 (vin (N := 7) (by omega) (xk_tr _ ht4).2.2.2.2.1 (by omega)) d_Tr_makeLeaf_6 (fun H locs hw => ?_)
  rw [nI_clamp (n := n) (by omega)] at hw
  refine lv_aload_n hx hb d_Tr_makeLeaf_7 rfl (lv_at hl 0 rfl) ?_
  refine x_get (ci := 5) (k := 59 + t) hx hb ht in_Tr hown hw (by omega) (o_Tr ht4) rfl 1 (by decide) (ht _ w_70) rfl d_Tr_makeLeaf_8 ?_
  refine lv_iload_n hx hb d_Tr_makeLeaf_11 rfl (lv_at hl 1 rfl) ?_
  refine lv_iconst (v := (-1)) hx hb d_Tr_makeLeaf_12 (by decide) ?_
  refine x_iast (k := 67 + t) hx hb hw (by omega) (xk_tr _ ht4).2.2.1 (vin (N := 7) (by omega) (xk_tr _ ht4).2.2.2.2.2.1 (by omega)) d_Tr_makeLeaf_13 (fun H locs hw => ?_)
  rw [nI_clamp (n := n) (by omega)] at hw
  refine lv_aload_n hx hb d_Tr_makeLeaf_14 rfl (lv_at hl 0 rfl) ?_
  refine x_get (ci := 5) (k := 59 + t) hx hb ht in_Tr hown hw (by omega) (o_Tr ht4) rfl 2 (by decide) (ht _ w_71) rfl d_Tr_makeLeaf_15 ?_
  refine lv_iload_n hx hb d_Tr_makeLeaf_18 rfl (lv_at hl 1 rfl) ?_
  refine lv_lload_n hx hb d_Tr_makeLeaf_19 rfl (lv_at hl 2 rfl) ?_
  refine x_last (k := 71 + t) hx hb hw (by omega) (xk_tr _ ht4).2.2.2.1 (vin (N := 7) (by omega) (xk_tr _ ht4).2.2.2.2.2.2 (by omega)) d_Tr_makeLeaf_20 (fun H locs hw => ?_)
  rw [nI_clamp (n := n) (by omega)] at hw
  exact x_vret hsz hx hb hr hlk hw rfl d_Tr_makeLeaf_21)
set_option maxHeartbeats 4000000 in
set_option maxRecDepth 100000 in
theorem m_Tr_makeSplit {l : Launch} {D : va_G} {g : Ids} {ad : Nat → Nat} {u : St} (t : Nat) (n : Nat) (x : Int32) (y : Int32) (ht4 : t < 4) (hn7 : n < 7) : XMv l D g ad y_Tr_makeSplit b_Tr_makeSplit 4 (none) (rmN 0 0) [.ref (ad (59 + t)), .int (nI n), .int x, .int y] u (fun w => w = sL (sI (sI u (63 + t) n x) (67 + t) n y) (71 + t) n 0) := fun sz => x_met (by decide) (Nat.le_of_ble_eq_true rfl) (fun p e s m below meth c hsz hx hb hr hml hown ht hlk hw ls hl => by
  have hA : ∀ q, s.heap.size ≤ q → AX ad sz q := fun q h => Or.inr (hsz ▸ h)
  have hl : lv_has ls 4 [(0, .ref (ad (59 + t))), (1, .int (nI n)), (2, .int x), (3, .int y)] := hl
  refine lv_aload_n hx hb d_Tr_makeSplit_0 rfl (lv_at hl 0 rfl) ?_
  refine x_get (ci := 5) (k := 59 + t) hx hb ht in_Tr hown hw (by omega) (o_Tr ht4) rfl 0 (by decide) (ht _ w_69) rfl d_Tr_makeSplit_1 ?_
  refine lv_iload_n hx hb d_Tr_makeSplit_4 rfl (lv_at hl 1 rfl) ?_
  refine lv_iload_n hx hb d_Tr_makeSplit_5 rfl (lv_at hl 2 rfl) ?_
  refine x_iast (k := 63 + t) hx hb hw (by omega) (xk_tr _ ht4).2.1 (vin (N := 7) (by omega) (xk_tr _ ht4).2.2.2.2.1 (by omega)) d_Tr_makeSplit_6 (fun H locs hw => ?_)
  rw [nI_clamp (n := n) (by omega)] at hw
  refine lv_aload_n hx hb d_Tr_makeSplit_7 rfl (lv_at hl 0 rfl) ?_
  refine x_get (ci := 5) (k := 59 + t) hx hb ht in_Tr hown hw (by omega) (o_Tr ht4) rfl 1 (by decide) (ht _ w_70) rfl d_Tr_makeSplit_8 ?_
  refine lv_iload_n hx hb d_Tr_makeSplit_11 rfl (lv_at hl 1 rfl) ?_
  refine lv_iload_n hx hb d_Tr_makeSplit_12 rfl (lv_at hl 3 rfl) ?_
  refine x_iast (k := 67 + t) hx hb hw (by omega) (xk_tr _ ht4).2.2.1 (vin (N := 7) (by omega) (xk_tr _ ht4).2.2.2.2.2.1 (by omega)) d_Tr_makeSplit_13 (fun H locs hw => ?_)
  rw [nI_clamp (n := n) (by omega)] at hw
  refine lv_aload_n hx hb d_Tr_makeSplit_14 rfl (lv_at hl 0 rfl) ?_
  refine x_get (ci := 5) (k := 59 + t) hx hb ht in_Tr hown hw (by omega) (o_Tr ht4) rfl 2 (by decide) (ht _ w_71) rfl d_Tr_makeSplit_15 ?_
  refine lv_iload_n hx hb d_Tr_makeSplit_18 rfl (lv_at hl 1 rfl) ?_
  refine lv_lconst (v := 0) hx hb d_Tr_makeSplit_19 (by decide) ?_
  refine x_last (k := 71 + t) hx hb hw (by omega) (xk_tr _ ht4).2.2.2.1 (vin (N := 7) (by omega) (xk_tr _ ht4).2.2.2.2.2.2 (by omega)) d_Tr_makeSplit_20 (fun H locs hw => ?_)
  rw [nI_clamp (n := n) (by omega)] at hw
  exact x_vret hsz hx hb hr hlk hw rfl d_Tr_makeSplit_21)
set_option maxHeartbeats 4000000 in
set_option maxRecDepth 100000 in
theorem m_Tr_isAbsent {l : Launch} {D : va_G} {g : Ids} {ad : Nat → Nat} {u : St} (t : Nat) (n : Nat) (ht4 : t < 4) (hn7 : n < 7) : XMi l D g ad y_Tr_isAbsent b_Tr_isAbsent 2 ((some .boolean)) (rmN 0 0) [.ref (ad (59 + t)), .int (nI n)] u (fun v w => v = isAbF (u.1 (63 + t) n) ∧ w = u) := fun sz => x_met (by decide) (Nat.le_of_ble_eq_true rfl) (fun p e s m below meth c hsz hx hb hr hml hown ht hlk hw ls hl => by
  have hA : ∀ q, s.heap.size ≤ q → AX ad sz q := fun q h => Or.inr (hsz ▸ h)
  have hl : lv_has ls 2 [(0, .ref (ad (59 + t))), (1, .int (nI n))] := hl
  refine lv_aload_n hx hb d_Tr_isAbsent_0 rfl (lv_at hl 0 rfl) ?_
  refine x_get (ci := 5) (k := 59 + t) hx hb ht in_Tr hown hw (by omega) (o_Tr ht4) rfl 0 (by decide) (ht _ w_69) rfl d_Tr_isAbsent_1 ?_
  refine lv_iload_n hx hb d_Tr_isAbsent_4 rfl (lv_at hl 1 rfl) ?_
  refine x_iald (k := 63 + t) hx hb hw (by omega) (xk_tr _ ht4).2.1 (vin (N := 7) (by omega) (xk_tr _ ht4).2.2.2.2.1 (by omega)) d_Tr_isAbsent_5 ?_
  rw [nI_clamp (n := n) (by omega)]
  refine lv_bipush (v := (-2)) hx hb d_Tr_isAbsent_6 (by decide) ?_
  refine lv_icmp_ne (tgt := 15) hx hb d_Tr_isAbsent_8 (by decide) (fun c8 => ?_) (fun c8 => ?_)
  · refine lv_iconst (v := 0) hx hb d_Tr_isAbsent_15 (by decide) ?_
    exact x_zret hsz hx hb hr hlk hw rfl ⟨by simp [isAbF, c8], rfl⟩ d_Tr_isAbsent_16
  · refine lv_iconst (v := 1) hx hb d_Tr_isAbsent_11 (by decide) ?_
    refine lv_goto (tgt := 16) hx hb d_Tr_isAbsent_12 (by decide) ?_
    exact x_zret hsz hx hb hr hlk hw rfl ⟨by simp [isAbF, c8], rfl⟩ d_Tr_isAbsent_16)
set_option maxHeartbeats 4000000 in
set_option maxRecDepth 100000 in
theorem m_Tr_isLeaf {l : Launch} {D : va_G} {g : Ids} {ad : Nat → Nat} {u : St} (t : Nat) (n : Nat) (ht4 : t < 4) (hn7 : n < 7) : XMi l D g ad y_Tr_isLeaf b_Tr_isLeaf 2 ((some .boolean)) (rmN 0 0) [.ref (ad (59 + t)), .int (nI n)] u (fun v w => v = isLfF (u.1 (63 + t) n) ∧ w = u) := fun sz => x_met (by decide) (Nat.le_of_ble_eq_true rfl) (fun p e s m below meth c hsz hx hb hr hml hown ht hlk hw ls hl => by
  have hA : ∀ q, s.heap.size ≤ q → AX ad sz q := fun q h => Or.inr (hsz ▸ h)
  have hl : lv_has ls 2 [(0, .ref (ad (59 + t))), (1, .int (nI n))] := hl
  refine lv_aload_n hx hb d_Tr_isLeaf_0 rfl (lv_at hl 0 rfl) ?_
  refine x_get (ci := 5) (k := 59 + t) hx hb ht in_Tr hown hw (by omega) (o_Tr ht4) rfl 0 (by decide) (ht _ w_69) rfl d_Tr_isLeaf_1 ?_
  refine lv_iload_n hx hb d_Tr_isLeaf_4 rfl (lv_at hl 1 rfl) ?_
  refine x_iald (k := 63 + t) hx hb hw (by omega) (xk_tr _ ht4).2.1 (vin (N := 7) (by omega) (xk_tr _ ht4).2.2.2.2.1 (by omega)) d_Tr_isLeaf_5 ?_
  rw [nI_clamp (n := n) (by omega)]
  refine lv_iconst (v := (-1)) hx hb d_Tr_isLeaf_6 (by decide) ?_
  refine lv_icmp_ne (tgt := 14) hx hb d_Tr_isLeaf_7 (by decide) (fun c7 => ?_) (fun c7 => ?_)
  · refine lv_iconst (v := 0) hx hb d_Tr_isLeaf_14 (by decide) ?_
    exact x_zret hsz hx hb hr hlk hw rfl ⟨by simp [isLfF, c7], rfl⟩ d_Tr_isLeaf_15
  · refine lv_iconst (v := 1) hx hb d_Tr_isLeaf_10 (by decide) ?_
    refine lv_goto (tgt := 15) hx hb d_Tr_isLeaf_11 (by decide) ?_
    exact x_zret hsz hx hb hr hlk hw rfl ⟨by simp [isLfF, c7], rfl⟩ d_Tr_isLeaf_15)
set_option maxHeartbeats 4000000 in
set_option maxRecDepth 100000 in
theorem m_Tr_isSplit {l : Launch} {D : va_G} {g : Ids} {ad : Nat → Nat} {u : St} (t : Nat) (n : Nat) (ht4 : t < 4) (hn7 : n < 7) : XMi l D g ad y_Tr_isSplit b_Tr_isSplit 2 ((some .boolean)) (rmN 0 0) [.ref (ad (59 + t)), .int (nI n)] u (fun v w => v = isSpF (u.1 (63 + t) n) ∧ w = u) := fun sz => x_met (by decide) (Nat.le_of_ble_eq_true rfl) (fun p e s m below meth c hsz hx hb hr hml hown ht hlk hw ls hl => by
  have hA : ∀ q, s.heap.size ≤ q → AX ad sz q := fun q h => Or.inr (hsz ▸ h)
  have hl : lv_has ls 2 [(0, .ref (ad (59 + t))), (1, .int (nI n))] := hl
  refine lv_aload_n hx hb d_Tr_isSplit_0 rfl (lv_at hl 0 rfl) ?_
  refine x_get (ci := 5) (k := 59 + t) hx hb ht in_Tr hown hw (by omega) (o_Tr ht4) rfl 0 (by decide) (ht _ w_69) rfl d_Tr_isSplit_1 ?_
  refine lv_iload_n hx hb d_Tr_isSplit_4 rfl (lv_at hl 1 rfl) ?_
  refine x_iald (k := 63 + t) hx hb hw (by omega) (xk_tr _ ht4).2.1 (vin (N := 7) (by omega) (xk_tr _ ht4).2.2.2.2.1 (by omega)) d_Tr_isSplit_5 ?_
  rw [nI_clamp (n := n) (by omega)]
  refine lv_if_lt (tgt := 13) hx hb d_Tr_isSplit_6 (by decide) (fun c6 => ?_) (fun c6 => ?_)
  · refine lv_iconst (v := 0) hx hb d_Tr_isSplit_13 (by decide) ?_
    exact x_zret hsz hx hb hr hlk hw rfl ⟨by simp [isSpF, c6], rfl⟩ d_Tr_isSplit_14
  · refine lv_iconst (v := 1) hx hb d_Tr_isSplit_9 (by decide) ?_
    refine lv_goto (tgt := 14) hx hb d_Tr_isSplit_10 (by decide) ?_
    exact x_zret hsz hx hb hr hlk hw rfl ⟨by simp [isSpF, c6], rfl⟩ d_Tr_isSplit_14)
set_option maxHeartbeats 4000000 in
set_option maxRecDepth 100000 in
theorem m_Tr_leaves {l : Launch} {D : va_G} {g : Ids} {ad : Nat → Nat} {u : St} (t : Nat) (ht4 : t < 4) : XMi l D g ad y_Tr_leaves b_Tr_leaves 3 ((some .int)) (rmN 1 21) [.ref (ad (59 + t))] u (fun v w => v = cntF (fun n => isLfF (u.1 (63 + t) n)) 7 ∧ w = u) := fun sz => x_met (by decide) (Nat.le_of_ble_eq_true rfl) (fun p e s m below meth c hsz hx hb hr hml hown ht hlk hw ls hl => by
  have hA : ∀ q, s.heap.size ≤ q → AX ad sz q := fun q h => Or.inr (hsz ▸ h)
  have hl : lv_has ls 3 [(0, .ref (ad (59 + t)))] := hl
  refine lv_iconst (v := 0) hx hb d_Tr_leaves_0 (by decide) ?_
  refine lv_istore_n (lv' := [(1, .int 0), (0, .ref (ad (59 + t)))]) hx hb d_Tr_leaves_1 rfl hl (by decide) rfl (fun ls hl => ?_)
  refine lv_iconst (v := 0) hx hb d_Tr_leaves_2 (by decide) ?_
  refine lv_istore_n (lv' := [(2, .int 0), (1, .int 0), (0, .ref (ad (59 + t)))]) hx hb d_Tr_leaves_3 rfl hl (by decide) rfl (fun ls hl => ?_)
  have L4 : ∀ (n4 : Nat) (i : Nat), i ≤ 7 → 7 - i < n4 → ∀ (H : Heap) (locs : List Loc), XH D g ad (AX ad sz) s s.heap H locs u → ∀ ls : Array Slot, lv_has ls 3 [(2, .int (nI i)), (1, .int (cntF (fun n => isLfF (u.1 (63 + t) n)) i)), (0, .ref (ad (59 + t)))] → W p l e (rmN 1 21) s m ([.ref (ad (59 + t))] : List Value).toArray below meth c H locs 0 0 (MQ below (va_Qi (fun v w => v = cntF (fun n => isLfF (u.1 (63 + t) n)) 7 ∧ w = u) (XB D g ad sz) (AX ad sz)) ([.ref (ad (59 + t))] : List Value).toArray s 0 0 (AX ad sz)) (F0 m 4 ls []) := by
    intro n4
    induction n4 with
    | zero => intro i h1 hz; exact absurd hz (by omega)
    | succ n4 ih4 =>
      intro i h1 hnL4 H locs hw ls hl
      refine lv_iload_n hx hb d_Tr_leaves_4 rfl (lv_at hl 0 rfl) ?_
      refine lv_bipush (v := 7) hx hb d_Tr_leaves_5 (by decide) ?_
      refine lv_icmp_ge (tgt := 27) hx hb d_Tr_leaves_7 (by decide) (fun c7 => ?_) (fun c7 => ?_)
      · have h7 : (7) ≤ (i) := (nI_leI (a := 7) (b := i) (by omega) (by omega)).mp c7
        refine lv_iload_n hx hb d_Tr_leaves_27 rfl (lv_at hl 1 rfl) ?_
        exact x_iret hsz hx hb hr hlk hw ⟨by rw [show i = 7 by omega], rfl⟩ d_Tr_leaves_28
      · have h7 : ¬ (7) ≤ (i) := fun hz9 => c7 ((nI_leI (a := 7) (b := i) (by omega) (by omega)).mpr hz9)
        refine lv_aload_n hx hb d_Tr_leaves_10 rfl (lv_at hl 2 rfl) ?_
        refine lv_iload_n hx hb d_Tr_leaves_11 rfl (lv_at hl 0 rfl) ?_
        refine x_ci (x_runV (na := 1) (k := 59 + t) (As := [.int (nI i)]) (rest := []) (ci := 5) ⟨hx, hb, hml, hown, ht⟩ (m_Tr_isLeaf t i ht4 (by omega) _) w_348 w_349 w_350 w_6 w_351 (by decide +kernel) ⟨rfl, rfl, by decide, by decide⟩ hw (by omega) (o_Tr ht4) rfl rfl hl.1 rfl (Nat.le_of_ble_eq_true rfl) d_Tr_leaves_12 ⟨Nat.zero_le _, Nat.zero_le _⟩) hw hA (fun v12 u12 H locs hp hw => ?_)
        obtain ⟨hv9, hu⟩ := hp
        subst hv9
        have hu := hu.symm
        subst hu
        refine lv_if_eq (tgt := 21) hx hb d_Tr_leaves_15 (by decide) (fun c15 => ?_) (fun c15 => ?_)
        · refine lv_iinc (v := (nI (i + 1))) (lv' := [(2, .int (nI (i + 1))), (1, .int (cntF (fun n => isLfF (u.1 (63 + t) n)) i)), (0, .ref (ad (59 + t)))]) hx hb d_Tr_leaves_21 hl (k := 0) rfl (nI_1 _) (by decide) rfl (fun ls hl => ?_)
          refine lv_goto (tgt := 4) hx hb d_Tr_leaves_24 (by decide) ?_
          exact ih4 (i + 1) (by omega) (by omega) _ _ hw ls (by rw [← (show (cntF (fun n => isLfF (u.1 (63 + t) n)) i) = (cntF (fun n => isLfF (u.1 (63 + t) n)) (i + 1)) from (by simp only [cntF]; first | rw [if_pos c15] | rw [if_neg c15]))]; exact lv_sub hl [0, 1, 2] rfl)
        · refine lv_iinc (v := ((cntF (fun n => isLfF (u.1 (63 + t) n)) i) + 1)) (lv' := [(1, .int ((cntF (fun n => isLfF (u.1 (63 + t) n)) i) + 1)), (2, .int (nI i)), (0, .ref (ad (59 + t)))]) hx hb d_Tr_leaves_18 hl (k := 1) rfl rfl (by decide) rfl (fun ls hl => ?_)
          refine lv_iinc (v := (nI (i + 1))) (lv' := [(2, .int (nI (i + 1))), (1, .int ((cntF (fun n => isLfF (u.1 (63 + t) n)) i) + 1)), (0, .ref (ad (59 + t)))]) hx hb d_Tr_leaves_21 hl (k := 1) rfl (nI_1 _) (by decide) rfl (fun ls hl => ?_)
          refine lv_goto (tgt := 4) hx hb d_Tr_leaves_24 (by decide) ?_
          exact ih4 (i + 1) (by omega) (by omega) _ _ hw ls (by rw [← (show ((cntF (fun n => isLfF (u.1 (63 + t) n)) i) + 1) = (cntF (fun n => isLfF (u.1 (63 + t) n)) (i + 1)) from (by simp only [cntF]; first | rw [if_pos c15] | rw [if_neg c15]))]; exact lv_sub hl [0, 1, 2] rfl)
  exact L4 ((7 - 0) + 1) (0) (by omega) (by omega) _ _ hw ls (lv_sub hl [0, 1, 2] rfl))
set_option maxHeartbeats 4000000 in
set_option maxRecDepth 100000 in
theorem m_Tr_splits {l : Launch} {D : va_G} {g : Ids} {ad : Nat → Nat} {u : St} (t : Nat) (ht4 : t < 4) : XMi l D g ad y_Tr_splits b_Tr_splits 3 ((some .int)) (rmN 1 21) [.ref (ad (59 + t))] u (fun v w => v = cntF (fun n => isSpF (u.1 (63 + t) n)) 7 ∧ w = u) := fun sz => x_met (by decide) (Nat.le_of_ble_eq_true rfl) (fun p e s m below meth c hsz hx hb hr hml hown ht hlk hw ls hl => by
  have hA : ∀ q, s.heap.size ≤ q → AX ad sz q := fun q h => Or.inr (hsz ▸ h)
  have hl : lv_has ls 3 [(0, .ref (ad (59 + t)))] := hl
  refine lv_iconst (v := 0) hx hb d_Tr_splits_0 (by decide) ?_
  refine lv_istore_n (lv' := [(1, .int 0), (0, .ref (ad (59 + t)))]) hx hb d_Tr_splits_1 rfl hl (by decide) rfl (fun ls hl => ?_)
  refine lv_iconst (v := 0) hx hb d_Tr_splits_2 (by decide) ?_
  refine lv_istore_n (lv' := [(2, .int 0), (1, .int 0), (0, .ref (ad (59 + t)))]) hx hb d_Tr_splits_3 rfl hl (by decide) rfl (fun ls hl => ?_)
  have L4 : ∀ (n4 : Nat) (i : Nat), i ≤ 7 → 7 - i < n4 → ∀ (H : Heap) (locs : List Loc), XH D g ad (AX ad sz) s s.heap H locs u → ∀ ls : Array Slot, lv_has ls 3 [(2, .int (nI i)), (1, .int (cntF (fun n => isSpF (u.1 (63 + t) n)) i)), (0, .ref (ad (59 + t)))] → W p l e (rmN 1 21) s m ([.ref (ad (59 + t))] : List Value).toArray below meth c H locs 0 0 (MQ below (va_Qi (fun v w => v = cntF (fun n => isSpF (u.1 (63 + t) n)) 7 ∧ w = u) (XB D g ad sz) (AX ad sz)) ([.ref (ad (59 + t))] : List Value).toArray s 0 0 (AX ad sz)) (F0 m 4 ls []) := by
    intro n4
    induction n4 with
    | zero => intro i h1 hz; exact absurd hz (by omega)
    | succ n4 ih4 =>
      intro i h1 hnL4 H locs hw ls hl
      refine lv_iload_n hx hb d_Tr_splits_4 rfl (lv_at hl 0 rfl) ?_
      refine lv_bipush (v := 7) hx hb d_Tr_splits_5 (by decide) ?_
      refine lv_icmp_ge (tgt := 27) hx hb d_Tr_splits_7 (by decide) (fun c7 => ?_) (fun c7 => ?_)
      · have h7 : (7) ≤ (i) := (nI_leI (a := 7) (b := i) (by omega) (by omega)).mp c7
        refine lv_iload_n hx hb d_Tr_splits_27 rfl (lv_at hl 1 rfl) ?_
        exact x_iret hsz hx hb hr hlk hw ⟨by rw [show i = 7 by omega], rfl⟩ d_Tr_splits_28
      · have h7 : ¬ (7) ≤ (i) := fun hz9 => c7 ((nI_leI (a := 7) (b := i) (by omega) (by omega)).mpr hz9)
        refine lv_aload_n hx hb d_Tr_splits_10 rfl (lv_at hl 2 rfl) ?_
        refine lv_iload_n hx hb d_Tr_splits_11 rfl (lv_at hl 0 rfl) ?_
        refine x_ci (x_runV (na := 1) (k := 59 + t) (As := [.int (nI i)]) (rest := []) (ci := 5) ⟨hx, hb, hml, hown, ht⟩ (m_Tr_isSplit t i ht4 (by omega) _) w_335 w_336 w_337 w_6 w_338 (by decide +kernel) ⟨rfl, rfl, by decide, by decide⟩ hw (by omega) (o_Tr ht4) rfl rfl hl.1 rfl (Nat.le_of_ble_eq_true rfl) d_Tr_splits_12 ⟨Nat.zero_le _, Nat.zero_le _⟩) hw hA (fun v12 u12 H locs hp hw => ?_)
        obtain ⟨hv9, hu⟩ := hp
        subst hv9
        have hu := hu.symm
        subst hu
        refine lv_if_eq (tgt := 21) hx hb d_Tr_splits_15 (by decide) (fun c15 => ?_) (fun c15 => ?_)
        · refine lv_iinc (v := (nI (i + 1))) (lv' := [(2, .int (nI (i + 1))), (1, .int (cntF (fun n => isSpF (u.1 (63 + t) n)) i)), (0, .ref (ad (59 + t)))]) hx hb d_Tr_splits_21 hl (k := 0) rfl (nI_1 _) (by decide) rfl (fun ls hl => ?_)
          refine lv_goto (tgt := 4) hx hb d_Tr_splits_24 (by decide) ?_
          exact ih4 (i + 1) (by omega) (by omega) _ _ hw ls (by rw [← (show (cntF (fun n => isSpF (u.1 (63 + t) n)) i) = (cntF (fun n => isSpF (u.1 (63 + t) n)) (i + 1)) from (by simp only [cntF]; first | rw [if_pos c15] | rw [if_neg c15]))]; exact lv_sub hl [0, 1, 2] rfl)
        · refine lv_iinc (v := ((cntF (fun n => isSpF (u.1 (63 + t) n)) i) + 1)) (lv' := [(1, .int ((cntF (fun n => isSpF (u.1 (63 + t) n)) i) + 1)), (2, .int (nI i)), (0, .ref (ad (59 + t)))]) hx hb d_Tr_splits_18 hl (k := 1) rfl rfl (by decide) rfl (fun ls hl => ?_)
          refine lv_iinc (v := (nI (i + 1))) (lv' := [(2, .int (nI (i + 1))), (1, .int ((cntF (fun n => isSpF (u.1 (63 + t) n)) i) + 1)), (0, .ref (ad (59 + t)))]) hx hb d_Tr_splits_21 hl (k := 1) rfl (nI_1 _) (by decide) rfl (fun ls hl => ?_)
          refine lv_goto (tgt := 4) hx hb d_Tr_splits_24 (by decide) ?_
          exact ih4 (i + 1) (by omega) (by omega) _ _ hw ls (by rw [← (show ((cntF (fun n => isSpF (u.1 (63 + t) n)) i) + 1) = (cntF (fun n => isSpF (u.1 (63 + t) n)) (i + 1)) from (by simp only [cntF]; first | rw [if_pos c15] | rw [if_neg c15]))]; exact lv_sub hl [0, 1, 2] rfl)
  exact L4 ((7 - 0) + 1) (0) (by omega) (by omega) _ _ hw ls (lv_sub hl [0, 1, 2] rfl))
set_option maxHeartbeats 4000000 in
set_option maxRecDepth 100000 in
theorem m_Tr_featureAt {l : Launch} {D : va_G} {g : Ids} {ad : Nat → Nat} {u : St} (t : Nat) (n : Nat) (ht4 : t < 4) (hn7 : n < 7) : XMi l D g ad y_Tr_featureAt b_Tr_featureAt 2 ((some .int)) (rmN 0 0) [.ref (ad (59 + t)), .int (nI n)] u (fun v w => v = u.1 (63 + t) n ∧ w = u) := fun sz => x_met (by decide) (Nat.le_of_ble_eq_true rfl) (fun p e s m below meth c hsz hx hb hr hml hown ht hlk hw ls hl => by
  have hA : ∀ q, s.heap.size ≤ q → AX ad sz q := fun q h => Or.inr (hsz ▸ h)
  have hl : lv_has ls 2 [(0, .ref (ad (59 + t))), (1, .int (nI n))] := hl
  refine lv_aload_n hx hb d_Tr_featureAt_0 rfl (lv_at hl 0 rfl) ?_
  refine x_get (ci := 5) (k := 59 + t) hx hb ht in_Tr hown hw (by omega) (o_Tr ht4) rfl 0 (by decide) (ht _ w_69) rfl d_Tr_featureAt_1 ?_
  refine lv_iload_n hx hb d_Tr_featureAt_4 rfl (lv_at hl 1 rfl) ?_
  refine x_iald (k := 63 + t) hx hb hw (by omega) (xk_tr _ ht4).2.1 (vin (N := 7) (by omega) (xk_tr _ ht4).2.2.2.2.1 (by omega)) d_Tr_featureAt_5 ?_
  rw [nI_clamp (n := n) (by omega)]
  exact x_iret hsz hx hb hr hlk hw ⟨rfl, rfl⟩ d_Tr_featureAt_6)
set_option maxHeartbeats 4000000 in
set_option maxRecDepth 100000 in
theorem m_Tr_thresholdAt {l : Launch} {D : va_G} {g : Ids} {ad : Nat → Nat} {u : St} (t : Nat) (n : Nat) (ht4 : t < 4) (hn7 : n < 7) : XMi l D g ad y_Tr_thresholdAt b_Tr_thresholdAt 2 ((some .int)) (rmN 0 0) [.ref (ad (59 + t)), .int (nI n)] u (fun v w => v = u.1 (67 + t) n ∧ w = u) := fun sz => x_met (by decide) (Nat.le_of_ble_eq_true rfl) (fun p e s m below meth c hsz hx hb hr hml hown ht hlk hw ls hl => by
  have hA : ∀ q, s.heap.size ≤ q → AX ad sz q := fun q h => Or.inr (hsz ▸ h)
  have hl : lv_has ls 2 [(0, .ref (ad (59 + t))), (1, .int (nI n))] := hl
  refine lv_aload_n hx hb d_Tr_thresholdAt_0 rfl (lv_at hl 0 rfl) ?_
  refine x_get (ci := 5) (k := 59 + t) hx hb ht in_Tr hown hw (by omega) (o_Tr ht4) rfl 1 (by decide) (ht _ w_70) rfl d_Tr_thresholdAt_1 ?_
  refine lv_iload_n hx hb d_Tr_thresholdAt_4 rfl (lv_at hl 1 rfl) ?_
  refine x_iald (k := 67 + t) hx hb hw (by omega) (xk_tr _ ht4).2.2.1 (vin (N := 7) (by omega) (xk_tr _ ht4).2.2.2.2.2.1 (by omega)) d_Tr_thresholdAt_5 ?_
  rw [nI_clamp (n := n) (by omega)]
  exact x_iret hsz hx hb hr hlk hw ⟨rfl, rfl⟩ d_Tr_thresholdAt_6)
set_option maxHeartbeats 4000000 in
set_option maxRecDepth 100000 in
theorem m_Tr_valueAt {l : Launch} {D : va_G} {g : Ids} {ad : Nat → Nat} {u : St} (t : Nat) (n : Nat) (ht4 : t < 4) (hn7 : n < 7) : XMl l D g ad y_Tr_valueAt b_Tr_valueAt 2 ((some .long)) (rmN 0 0) [.ref (ad (59 + t)), .int (nI n)] u (fun v w => v = u.2.1 (71 + t) n ∧ w = u) := fun sz => x_met (by decide) (Nat.le_of_ble_eq_true rfl) (fun p e s m below meth c hsz hx hb hr hml hown ht hlk hw ls hl => by
  have hA : ∀ q, s.heap.size ≤ q → AX ad sz q := fun q h => Or.inr (hsz ▸ h)
  have hl : lv_has ls 2 [(0, .ref (ad (59 + t))), (1, .int (nI n))] := hl
  refine lv_aload_n hx hb d_Tr_valueAt_0 rfl (lv_at hl 0 rfl) ?_
  refine x_get (ci := 5) (k := 59 + t) hx hb ht in_Tr hown hw (by omega) (o_Tr ht4) rfl 2 (by decide) (ht _ w_71) rfl d_Tr_valueAt_1 ?_
  refine lv_iload_n hx hb d_Tr_valueAt_4 rfl (lv_at hl 1 rfl) ?_
  refine x_lald (k := 71 + t) hx hb hw (by omega) (xk_tr _ ht4).2.2.2.1 (vin (N := 7) (by omega) (xk_tr _ ht4).2.2.2.2.2.2 (by omega)) d_Tr_valueAt_5 ?_
  rw [nI_clamp (n := n) (by omega)]
  exact x_lret hsz hx hb hr hlk hw ⟨rfl, rfl⟩ d_Tr_valueAt_6)
set_option maxHeartbeats 4000000 in
set_option maxRecDepth 100000 in
theorem m_Tr_partFor {l : Launch} {D : va_G} {g : Ids} {ad : Nat → Nat} {u : St} (t : Nat) (n : Nat) (k : Nat) (f : Nat) (ht4 : t < 4) (hn7 : n < 7) (hk : k < 90) (h1 : xk k = 1) (h5 : xn k = 5) (hf : f < 5) (hfe : u.1 (63 + t) n = nI f) : XMi l D g ad y_Tr_partFor b_Tr_partFor 3 ((some .int)) (rmN 0 0) [.ref (ad (59 + t)), .int (nI n), .ref (ad k)] u (fun v w => v = nI (stepN (u.1 (67 + t)) (u.1 k) n f) ∧ w = u) := fun sz => x_met (by decide) (Nat.le_of_ble_eq_true rfl) (fun p e s m below meth c hsz hx hb hr hml hown ht hlk hw ls hl => by
  have hA : ∀ q, s.heap.size ≤ q → AX ad sz q := fun q h => Or.inr (hsz ▸ h)
  have hl : lv_has ls 3 [(0, .ref (ad (59 + t))), (1, .int (nI n)), (2, .ref (ad k))] := hl
  refine lv_aload_n hx hb d_Tr_partFor_0 rfl (lv_at hl 2 rfl) ?_
  refine lv_aload_n hx hb d_Tr_partFor_1 rfl (lv_at hl 0 rfl) ?_
  refine x_get (ci := 5) (k := 59 + t) hx hb ht in_Tr hown hw (by omega) (o_Tr ht4) rfl 0 (by decide) (ht _ w_69) rfl d_Tr_partFor_2 ?_
  refine lv_iload_n hx hb d_Tr_partFor_5 rfl (lv_at hl 1 rfl) ?_
  refine x_iald (k := 63 + t) hx hb hw (by omega) (xk_tr _ ht4).2.1 (vin (N := 7) (by omega) (xk_tr _ ht4).2.2.2.2.1 (by omega)) d_Tr_partFor_6 ?_
  rw [nI_clamp (n := n) (by omega)]
  rw [show (u.1 (63 + t) n) = (nI f) from hfe]
  refine x_iald (k := k) hx hb hw hk h1 (vin (N := 5) (by omega) h5 (by omega)) d_Tr_partFor_7 ?_
  rw [nI_clamp (n := f) (by omega)]
  refine lv_aload_n hx hb d_Tr_partFor_8 rfl (lv_at hl 0 rfl) ?_
  refine x_get (ci := 5) (k := 59 + t) hx hb ht in_Tr hown hw (by omega) (o_Tr ht4) rfl 1 (by decide) (ht _ w_70) rfl d_Tr_partFor_9 ?_
  refine lv_iload_n hx hb d_Tr_partFor_12 rfl (lv_at hl 1 rfl) ?_
  refine x_iald (k := 67 + t) hx hb hw (by omega) (xk_tr _ ht4).2.2.1 (vin (N := 7) (by omega) (xk_tr _ ht4).2.2.2.2.2.1 (by omega)) d_Tr_partFor_13 ?_
  rw [nI_clamp (n := n) (by omega)]
  refine lv_icmp_gt (tgt := 25) hx hb d_Tr_partFor_14 (by decide) (fun c14 => ?_) (fun c14 => ?_)
  · refine lv_iconst (v := 2) hx hb d_Tr_partFor_25 (by decide) ?_
    refine lv_iload_n hx hb d_Tr_partFor_26 rfl (lv_at hl 1 rfl) ?_
    refine lv_imul hx hb d_Tr_partFor_27 ?_
    rw [show (2 * (nI n)) = (nI (2 * n)) from pk_mul _ _]
    refine lv_iconst (v := 2) hx hb d_Tr_partFor_28 (by decide) ?_
    refine lv_iadd hx hb d_Tr_partFor_29 ?_
    rw [show ((nI (2 * n)) + 2) = (nI (2 * n + 2)) from nI_add _ _]
    exact x_iret hsz hx hb hr hlk hw ⟨by unfold stepN; first | rw [if_pos c14] | rw [if_neg c14], rfl⟩ d_Tr_partFor_30
  · refine lv_iconst (v := 2) hx hb d_Tr_partFor_17 (by decide) ?_
    refine lv_iload_n hx hb d_Tr_partFor_18 rfl (lv_at hl 1 rfl) ?_
    refine lv_imul hx hb d_Tr_partFor_19 ?_
    rw [show (2 * (nI n)) = (nI (2 * n)) from pk_mul _ _]
    refine lv_iconst (v := 1) hx hb d_Tr_partFor_20 (by decide) ?_
    refine lv_iadd hx hb d_Tr_partFor_21 ?_
    rw [show ((nI (2 * n)) + 1) = (nI (2 * n + 1)) from nI_add _ _]
    refine lv_goto (tgt := 30) hx hb d_Tr_partFor_22 (by decide) ?_
    exact x_iret hsz hx hb hr hlk hw ⟨by unfold stepN; first | rw [if_pos c14] | rw [if_neg c14], rfl⟩ d_Tr_partFor_30)
