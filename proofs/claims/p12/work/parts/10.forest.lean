def walkN (ft th x : Nat → Int32) : Nat → Nat → Nat
  | 0, n => n
  | l + 1, n => if ft n < 0 then n else walkN ft th x l (stepN th x n (ft n).toNatClampNeg)
theorem walkN_n {ft th x : Nat → Int32} {l n : Nat} (h : ft n < 0) : walkN ft th x l n = n := by
  cases l with
  | zero => rfl
  | succ l => exact if_pos h
theorem walkN_s {ft th x : Nat → Int32} {l n f : Nat} (h : ¬ ft n < 0) (hf : ft n = nI f) (hb : f < 5) : walkN ft th x (l + 1) n = walkN ft th x l (stepN th x n f) := by
  show (if _ then _ else _) = _
  rw [if_neg h, hf, nI_clamp (by omega)]
theorem isSp_n {x : Int32} (h : ¬ isSpF x = 0) : ¬ x < 0 := fun q => h (by unfold isSpF; rw [if_pos q])
theorem isSp_y {x : Int32} (h : isSpF x = 0) : x < 0 := by
  unfold isSpF at h
  split at h
  · assumption
  · exact absurd h (by decide)
theorem sp_ix {x : Int32} (h5 : x < 5) (h0 : ¬ x < 0) : ∃ f : Nat, f < 5 ∧ x = nI f := by
  obtain ⟨j, hj, rfl⟩ := nI_of h0
  exact ⟨j, (nI_ltI (a := j) (b := 5) hj (by decide)).mp h5, rfl⟩
theorem ge_of_cmp {x y : Int64} (h : 0 ≤ lg_cmp x y) : ¬ x < y := by
  have := (lg_cmp_ge x y).mp h
  intro q
  rw [Int64.lt_iff_toInt_lt] at q
  rw [Int64.le_iff_toInt_le] at this
  omega
theorem lt_of_cmp {x y : Int64} (h : ¬ 0 ≤ lg_cmp x y) : x < y := by
  rw [Int64.lt_iff_toInt_lt]
  exact Int.not_le.mp (fun q => h ((lg_cmp_ge x y).mpr (Int64.le_iff_toInt_le.mpr q)))
/-- the places behind are moved one on, while their key is less -/
def shiftF (u : St) (k : Nat) (x : Int64) : Nat → St × Nat
  | 0 => (u, 0)
  | i + 1 => if u.2.1 (2 * k + 7) i < x then shiftF (sI (sL u (2 * k + 7) (i + 1) (u.2.1 (2 * k + 7) i)) (2 * k + 6) (i + 1) (u.1 (2 * k + 6) i)) k x i else (u, i + 1)
theorem shiftF_y {u : St} {k i : Nat} {x : Int64} (h : u.2.1 (2 * k + 7) i < x) : shiftF u k x (i + 1) = shiftF (sI (sL u (2 * k + 7) (i + 1) (u.2.1 (2 * k + 7) i)) (2 * k + 6) (i + 1) (u.1 (2 * k + 6) i)) k x i := if_pos h
theorem shiftF_n {u : St} {k i : Nat} {x : Int64} (h : ¬ u.2.1 (2 * k + 7) i < x) : shiftF u k x (i + 1) = (u, i + 1) := if_neg h
def insF (u : St) (k : Nat) (d : Int32) (x : Int64) (n : Nat) : St := if n < 16 then sF (sI (sL (shiftF u k x n).1 (2 * k + 7) (shiftF u k x n).2 x) (2 * k + 6) (shiftF u k x n).2 d) (k + 2) (nI (n + 1)) else u
theorem insF_eq {u : St} {k n : Nat} {d : Int32} {x : Int64} (h : n < 16) : insF u k d x n = sF (sI (sL (shiftF u k x n).1 (2 * k + 7) (shiftF u k x n).2 x) (2 * k + 6) (shiftF u k x n).2 d) (k + 2) (nI (n + 1)) := if_pos h
theorem insF_no {u : St} {k n : Nat} {d : Int32} {x : Int64} (h : ¬ n < 16) : insF u k d x n = u := if_neg h
def scoreF (u : St) (k : Nat) : Nat → Int64
  | 0 => 0
  | t + 1 => scoreF u k t + u.2.1 (71 + t) (walkN (u.1 (63 + t)) (u.1 (67 + t)) (u.1 k) 2 0)
set_option maxHeartbeats 4000000 in
set_option maxRecDepth 100000 in
theorem m_Tr_valueFor {l : Launch} {D : va_G} {g : Ids} {ad : Nat → Nat} {u : St} (t : Nat) (k : Nat) (ht4 : t < 4) (hk : k < 90) (h1 : xk k = 1) (h5 : xn k = 5) (hT : ∀ n, n < 7 → u.1 (63 + t) n < 5) : XMl l D g ad y_Tr_valueFor b_Tr_valueFor 4 ((some .long)) (rmN 1 22) [.ref (ad (59 + t)), .ref (ad k)] u (fun v w => v = u.2.1 (71 + t) (walkN (u.1 (63 + t)) (u.1 (67 + t)) (u.1 k) 2 0) ∧ w = u) := fun sz => x_met (by decide) (Nat.le_of_ble_eq_true rfl) (fun p e s m below meth c hsz hx hb hr hml hown ht hlk hw ls hl => by
  have hA : ∀ q, s.heap.size ≤ q → AX ad sz q := fun q h => Or.inr (hsz ▸ h)
  have hl : lv_has ls 4 [(0, .ref (ad (59 + t))), (1, .ref (ad k))] := hl
  refine lv_iconst (v := 0) hx hb d_Tr_valueFor_0 (by decide) ?_
  refine lv_istore_n (lv' := [(2, .int 0), (0, .ref (ad (59 + t))), (1, .ref (ad k))]) hx hb d_Tr_valueFor_1 rfl hl (by decide) rfl (fun ls hl => ?_)
  refine lv_iconst (v := 0) hx hb d_Tr_valueFor_2 (by decide) ?_
  refine lv_istore_n (lv' := [(3, .int 0), (2, .int 0), (0, .ref (ad (59 + t))), (1, .ref (ad k))]) hx hb d_Tr_valueFor_3 rfl hl (by decide) rfl (fun ls hl => ?_)
  have L4 : ∀ (n4 : Nat) (i : Nat) (n : Nat), i ≤ 2 → (n = 0 ∨ (1 ≤ i ∧ n < 3) ∨ (2 ≤ i ∧ n < 7)) → walkN (u.1 (63 + t)) (u.1 (67 + t)) (u.1 k) (2 - i) n = walkN (u.1 (63 + t)) (u.1 (67 + t)) (u.1 k) 2 0 → 2 - i < n4 → ∀ (H : Heap) (locs : List Loc), XH D g ad (AX ad sz) s s.heap H locs u → ∀ ls : Array Slot, lv_has ls 4 [(3, .int (nI i)), (2, .int (nI n)), (0, .ref (ad (59 + t))), (1, .ref (ad k))] → W p l e (rmN 1 22) s m ([.ref (ad (59 + t)), .ref (ad k)] : List Value).toArray below meth c H locs 0 0 (MQ below (va_Ql (fun v w => v = u.2.1 (71 + t) (walkN (u.1 (63 + t)) (u.1 (67 + t)) (u.1 k) 2 0) ∧ w = u) (XB D g ad sz) (AX ad sz)) ([.ref (ad (59 + t)), .ref (ad k)] : List Value).toArray s 0 0 (AX ad sz)) (F0 m 4 ls []) := by
    intro n4
    induction n4 with
    | zero => intro i n hi hb2 hv hz; exact absurd hz (by omega)
    | succ n4 ih4 =>
      intro i n hi hb2 hv hnL4 H locs hw ls hl
      refine lv_iload_n hx hb d_Tr_valueFor_4 rfl (lv_at hl 0 rfl) ?_
      refine lv_iconst (v := 2) hx hb d_Tr_valueFor_5 (by decide) ?_
      refine lv_icmp_ge (tgt := 30) hx hb d_Tr_valueFor_6 (by decide) (fun c6 => ?_) (fun c6 => ?_)
      · have h6 : (2) ≤ (i) := (nI_leI (a := 2) (b := i) (by omega) (by omega)).mp c6
        refine lv_aload_n hx hb d_Tr_valueFor_30 rfl (lv_at hl 2 rfl) ?_
        refine x_get (ci := 5) (k := 59 + t) hx hb ht in_Tr hown hw (by omega) (o_Tr ht4) rfl 2 (by decide) (ht _ w_71) rfl d_Tr_valueFor_31 ?_
        refine lv_iload_n hx hb d_Tr_valueFor_34 rfl (lv_at hl 1 rfl) ?_
        refine x_lald (k := 71 + t) hx hb hw (by omega) (xk_tr _ ht4).2.2.2.1 (vin (N := 7) (by omega) (xk_tr _ ht4).2.2.2.2.2.2 (by omega)) d_Tr_valueFor_35 ?_
        rw [nI_clamp (n := n) (by omega)]
        exact x_lret hsz hx hb hr hlk hw ⟨by rw [← hv]; first | (rw [show 2 - i = 0 by omega]; rfl) | rw [walkN_n (isSp_y c14)], rfl⟩ d_Tr_valueFor_36
      · have h6 : ¬ (2) ≤ (i) := fun hz9 => c6 ((nI_leI (a := 2) (b := i) (by omega) (by omega)).mpr hz9)
        refine lv_aload_n hx hb d_Tr_valueFor_9 rfl (lv_at hl 2 rfl) ?_
        refine lv_iload_n hx hb d_Tr_valueFor_10 rfl (lv_at hl 1 rfl) ?_
        refine x_ci (x_runV (na := 1) (k := 59 + t) (As := [.int (nI n)]) (rest := []) (ci := 5) ⟨hx, hb, hml, hown, ht⟩ (m_Tr_isSplit t n ht4 (by omega) _) w_335 w_336 w_337 w_6 w_338 (by decide +kernel) ⟨rfl, rfl, by decide, by decide⟩ hw (by omega) (o_Tr ht4) rfl rfl hl.1 rfl (Nat.le_of_ble_eq_true rfl) d_Tr_valueFor_11 ⟨Nat.zero_le _, Nat.zero_le _⟩) hw hA (fun v11 u11 H locs hp hw => ?_)
        obtain ⟨hv9, hu⟩ := hp
        subst hv9
        have hu := hu.symm
        subst hu
        refine lv_if_eq (tgt := 30) hx hb d_Tr_valueFor_14 (by decide) (fun c14 => ?_) (fun c14 => ?_)
        · refine lv_aload_n hx hb d_Tr_valueFor_30 rfl (lv_at hl 2 rfl) ?_
          refine x_get (ci := 5) (k := 59 + t) hx hb ht in_Tr hown hw (by omega) (o_Tr ht4) rfl 2 (by decide) (ht _ w_71) rfl d_Tr_valueFor_31 ?_
          refine lv_iload_n hx hb d_Tr_valueFor_34 rfl (lv_at hl 1 rfl) ?_
          refine x_lald (k := 71 + t) hx hb hw (by omega) (xk_tr _ ht4).2.2.2.1 (vin (N := 7) (by omega) (xk_tr _ ht4).2.2.2.2.2.2 (by omega)) d_Tr_valueFor_35 ?_
          rw [nI_clamp (n := n) (by omega)]
          exact x_lret hsz hx hb hr hlk hw ⟨by rw [← hv]; first | (rw [show 2 - i = 0 by omega]; rfl) | rw [walkN_n (isSp_y c14)], rfl⟩ d_Tr_valueFor_36
        · obtain ⟨f, hf, hfe⟩ : ∃ f : Nat, f < 5 ∧ u.1 (63 + t) n = nI f := sp_ix (hT n (by omega)) (isSp_n c14)
          refine lv_aload_n hx hb d_Tr_valueFor_17 rfl (lv_at hl 2 rfl) ?_
          refine lv_iload_n hx hb d_Tr_valueFor_18 rfl (lv_at hl 1 rfl) ?_
          refine lv_aload_n hx hb d_Tr_valueFor_19 rfl (lv_at hl 3 rfl) ?_
          refine x_ci (x_runV (na := 2) (k := 59 + t) (As := [.int (nI n), .ref (ad k)]) (rest := []) (ci := 5) ⟨hx, hb, hml, hown, ht⟩ (m_Tr_partFor t n k f ht4 (by omega) hk h1 h5 hf hfe _) w_339 w_324 w_325 w_6 w_326 (by decide +kernel) ⟨rfl, rfl, by decide, by decide⟩ hw (by omega) (o_Tr ht4) rfl rfl hl.1 rfl (Nat.le_of_ble_eq_true rfl) d_Tr_valueFor_20 ⟨Nat.zero_le _, Nat.zero_le _⟩) hw hA (fun v20 u20 H locs hp hw => ?_)
          obtain ⟨hv9, hu⟩ := hp
          subst hv9
          have hu := hu.symm
          subst hu
          refine lv_istore_n (lv' := [(2, .int (nI (stepN (u.1 (67 + t)) (u.1 k) n f))), (3, .int (nI i)), (0, .ref (ad (59 + t))), (1, .ref (ad k))]) hx hb d_Tr_valueFor_23 rfl hl (by decide) rfl (fun ls hl => ?_)
          refine lv_iinc (v := (nI (i + 1))) (lv' := [(3, .int (nI (i + 1))), (2, .int (nI (stepN (u.1 (67 + t)) (u.1 k) n f))), (0, .ref (ad (59 + t))), (1, .ref (ad k))]) hx hb d_Tr_valueFor_24 hl (k := 1) rfl (nI_1 _) (by decide) rfl (fun ls hl => ?_)
          refine lv_goto (tgt := 4) hx hb d_Tr_valueFor_27 (by decide) ?_
          exact ih4 (i + 1) (stepN (u.1 (67 + t)) (u.1 k) n f) (by omega) (by unfold stepN; split <;> omega) (by rw [← hv, show 2 - i = 2 - (i + 1) + 1 by omega, walkN_s (isSp_n c14) hfe hf]) (by omega) _ _ hw ls (lv_sub hl [0, 1, 2, 3] rfl)
  exact L4 ((2 - 0) + 1) (0) (0) (by omega) (Or.inl rfl) (rfl) (by omega) _ _ hw ls (lv_sub hl [0, 1, 2, 3] rfl))
set_option maxHeartbeats 4000000 in
set_option maxRecDepth 100000 in
theorem m_Fo_clear {l : Launch} {D : va_G} {g : Ids} {ad : Nat → Nat} {u : St} : XMv l D g ad y_Fo_clear b_Fo_clear 1 (none) (rmN 0 0) [.ref (ad 4)] u (fun w => w = sF u 2 0) := fun sz => x_met (by decide) (Nat.le_of_ble_eq_true rfl) (fun p e s m below meth c hsz hx hb hr hml hown ht hlk hw ls hl => by
  have hA : ∀ q, s.heap.size ≤ q → AX ad sz q := fun q h => Or.inr (hsz ▸ h)
  have hl : lv_has ls 1 [(0, .ref (ad 4))] := hl
  refine lv_aload_n hx hb d_Fo_clear_0 rfl (lv_at hl 0 rfl) ?_
  refine lv_iconst (v := 0) hx hb d_Fo_clear_1 (by decide) ?_
  refine x_puti (ci := 0) (k := 4) hx hb ht in_Fo t_Fo t_Fo_ok n_Fo hown hw (by decide) o_Fo rfl 1 (2) (by decide) (ht _ w_81) rfl (by decide +kernel) (Nat.le_of_ble_eq_true rfl) rfl rfl d_Fo_clear_2 (fun H locs hw => ?_)
  exact x_vret hsz hx hb hr hlk hw rfl d_Fo_clear_5)
set_option maxHeartbeats 4000000 in
set_option maxRecDepth 100000 in
theorem m_Fo_size {l : Launch} {D : va_G} {g : Ids} {ad : Nat → Nat} {u : St} : XMi l D g ad y_Fo_size b_Fo_size 1 ((some .int)) (rmN 0 0) [.ref (ad 4)] u (fun v w => v = u.2.2.1 2 ∧ w = u) := fun sz => x_met (by decide) (Nat.le_of_ble_eq_true rfl) (fun p e s m below meth c hsz hx hb hr hml hown ht hlk hw ls hl => by
  have hA : ∀ q, s.heap.size ≤ q → AX ad sz q := fun q h => Or.inr (hsz ▸ h)
  have hl : lv_has ls 1 [(0, .ref (ad 4))] := hl
  refine lv_aload_n hx hb d_Fo_size_0 rfl (lv_at hl 0 rfl) ?_
  refine x_get (ci := 0) (k := 4) hx hb ht in_Fo hown hw (by decide) o_Fo rfl 1 (by decide) (ht _ w_81) rfl d_Fo_size_1 ?_
  exact x_iret hsz hx hb hr hlk hw ⟨rfl, rfl⟩ d_Fo_size_4)
set_option maxHeartbeats 4000000 in
set_option maxRecDepth 100000 in
theorem m_Fo_treeAt {l : Launch} {D : va_G} {g : Ids} {ad : Nat → Nat} {u : St} (i : Nat) (hi4 : i < 4) : XMr l D g ad y_Fo_treeAt b_Fo_treeAt 2 ((some (.object "LearnedRanker$Tree"))) (rmN 0 0) [.ref (ad 4), .int (nI i)] u (fun w => w = (u, 59 + i)) := fun sz => x_met (by decide) (Nat.le_of_ble_eq_true rfl) (fun p e s m below meth c hsz hx hb hr hml hown ht hlk hw ls hl => by
  have hA : ∀ q, s.heap.size ≤ q → AX ad sz q := fun q h => Or.inr (hsz ▸ h)
  have hl : lv_has ls 2 [(0, .ref (ad 4)), (1, .int (nI i))] := hl
  refine lv_aload_n hx hb d_Fo_treeAt_0 rfl (lv_at hl 0 rfl) ?_
  refine x_get (ci := 0) (k := 4) hx hb ht in_Fo hown hw (by decide) o_Fo rfl 0 (by decide) (ht _ w_80) rfl d_Fo_treeAt_1 ?_
  refine lv_iload_n hx hb d_Fo_treeAt_4 rfl (lv_at hl 1 rfl) ?_
  refine x_aald (k := 13) (b := 59) (n := 4) (t0 := 4) hx hb hw (by decide) (fun _ => rfl) rfl rfl (vp_in_nI (by omega) (by decide)) d_Fo_treeAt_5 ?_
  rw [nI_clamp (n := i) (by omega)]
  exact x_aret hsz hx hb hr (Or.inl ⟨_, rfl⟩) hlk hw rfl d_Fo_treeAt_6)
set_option maxHeartbeats 4000000 in
set_option maxRecDepth 100000 in
theorem m_Fo_nextTree {l : Launch} {D : va_G} {g : Ids} {ad : Nat → Nat} {u : St} (n : Nat) (hn4 : n < 4) (hs : u.2.2.1 2 = nI n) : XMr l D g ad y_Fo_nextTree b_Fo_nextTree 2 ((some (.object "LearnedRanker$Tree"))) (rmN 2 43) [.ref (ad 4)] u (fun w => w = (fillF (sF u 2 (nI (n + 1))) (63 + n) (-2) 7, 59 + n)) := fun sz => x_met (by decide) (Nat.le_of_ble_eq_true rfl) (fun p e s m below meth c hsz hx hb hr hml hown ht hlk hw ls hl => by
  have hA : ∀ q, s.heap.size ≤ q → AX ad sz q := fun q h => Or.inr (hsz ▸ h)
  have hl : lv_has ls 2 [(0, .ref (ad 4))] := hl
  refine lv_aload_n hx hb d_Fo_nextTree_0 rfl (lv_at hl 0 rfl) ?_
  refine x_get (ci := 0) (k := 4) hx hb ht in_Fo hown hw (by decide) o_Fo rfl 0 (by decide) (ht _ w_80) rfl d_Fo_nextTree_1 ?_
  refine lv_aload_n hx hb d_Fo_nextTree_4 rfl (lv_at hl 0 rfl) ?_
  refine x_get (ci := 0) (k := 4) hx hb ht in_Fo hown hw (by decide) o_Fo rfl 1 (by decide) (ht _ w_81) rfl d_Fo_nextTree_5 ?_
  rw [show (u.2.2.1 2) = (nI n) from hs]
  refine lv_iconst (v := 3) hx hb d_Fo_nextTree_8 (by decide) ?_
  refine va_mmin (x := (nI n)) (y := 3) hx hb (by rw [hml]; exact hl.1.symm) hown (ht _ w_280) (ht _ w_281) (ht _ w_10) (ht _ w_282) (by decide) (Nat.le_of_ble_eq_true rfl) (Nat.zero_le _) (Nat.zero_le _) d_Fo_nextTree_9 ?_
  rw [show (if 3 < (nI n) then 3 else (nI n)) = (nI n) from if_neg (fun q => absurd ((nI_ltI (a := 3) (b := n) (by omega) (by omega)).mp q) (by omega))]
  refine x_aald (k := 13) (b := 59) (n := 4) (t0 := 4) hx hb hw (by decide) (fun _ => rfl) rfl rfl (vp_in_nI (by omega) (by decide)) d_Fo_nextTree_12 ?_
  rw [nI_clamp (n := n) (by omega)]
  refine lv_astore_n (lv' := [(1, .ref (ad (59 + n))), (0, .ref (ad 4))]) hx hb d_Fo_nextTree_13 rfl hl (by decide) rfl (fun ls hl => ?_)
  refine lv_aload_n hx hb d_Fo_nextTree_14 rfl (lv_at hl 1 rfl) ?_
  refine lv_aload_n hx hb d_Fo_nextTree_15 rfl (lv_at hl 1 rfl) ?_
  refine x_get (ci := 0) (k := 4) hx hb ht in_Fo hown hw (by decide) o_Fo rfl 1 (by decide) (ht _ w_81) rfl d_Fo_nextTree_16 ?_
  rw [show (u.2.2.1 2) = (nI n) from hs]
  refine lv_iconst (v := 1) hx hb d_Fo_nextTree_19 (by decide) ?_
  refine lv_iadd hx hb d_Fo_nextTree_20 ?_
  rw [show ((nI n) + 1) = (nI (n + 1)) from nI_add _ _]
  refine lv_iconst (v := 4) hx hb d_Fo_nextTree_21 (by decide) ?_
  refine va_mmin (x := (nI (n + 1))) (y := 4) hx hb (by rw [hml]; exact hl.1.symm) hown (ht _ w_280) (ht _ w_281) (ht _ w_10) (ht _ w_282) (by decide) (Nat.le_of_ble_eq_true rfl) (Nat.zero_le _) (Nat.zero_le _) d_Fo_nextTree_22 ?_
  rw [show (if 4 < (nI (n + 1)) then 4 else (nI (n + 1))) = (nI (n + 1)) from if_neg (fun q => absurd ((nI_ltI (a := 4) (b := n + 1) (by omega) (by omega)).mp q) (by omega))]
  refine x_puti (ci := 0) (k := 4) hx hb ht in_Fo t_Fo t_Fo_ok n_Fo hown hw (by decide) o_Fo rfl 1 (2) (by decide) (ht _ w_81) rfl (by decide +kernel) (Nat.le_of_ble_eq_true rfl) rfl rfl d_Fo_nextTree_25 (fun H locs hw => ?_)
  refine lv_aload_n hx hb d_Fo_nextTree_28 rfl (lv_at hl 0 rfl) ?_
  refine x_cv (x_runV (na := 0) (k := 59 + n) (As := []) (rest := []) (ci := 5) ⟨hx, hb, hml, hown, ht⟩ (m_Tr_clear n hn4 _) w_283 w_284 w_285 w_6 w_286 (by decide +kernel) ⟨rfl, rfl, by decide, by decide⟩ hw (by omega) (o_Tr hn4) rfl rfl hl.1 rfl (Nat.le_of_ble_eq_true rfl) d_Fo_nextTree_29 ⟨Nat.zero_le _, Nat.zero_le _⟩) hw hA (fun u29 H locs hp hw => ?_)
  have hu := hp.symm
  subst hu
  refine lv_aload_n hx hb d_Fo_nextTree_32 rfl (lv_at hl 0 rfl) ?_
  exact x_aret hsz hx hb hr (Or.inl ⟨_, rfl⟩) hlk hw rfl d_Fo_nextTree_33)
set_option maxHeartbeats 4000000 in
set_option maxRecDepth 100000 in
theorem m_Fo_leaves {l : Launch} {D : va_G} {g : Ids} {ad : Nat → Nat} {u : St} (n : Nat) (hn4 : n ≤ 4) (hs : u.2.2.1 2 = nI n) : XMi l D g ad y_Fo_leaves b_Fo_leaves 3 ((some .int)) (rmN 2 43) [.ref (ad 4)] u (fun v w => v = sumF (fun t => cntF (fun k => isLfF (u.1 (63 + t) k)) 7) n ∧ w = u) := fun sz => x_met (by decide) (Nat.le_of_ble_eq_true rfl) (fun p e s m below meth c hsz hx hb hr hml hown ht hlk hw ls hl => by
  have hA : ∀ q, s.heap.size ≤ q → AX ad sz q := fun q h => Or.inr (hsz ▸ h)
  have hl : lv_has ls 3 [(0, .ref (ad 4))] := hl
  refine lv_iconst (v := 0) hx hb d_Fo_leaves_0 (by decide) ?_
  refine lv_istore_n (lv' := [(1, .int 0), (0, .ref (ad 4))]) hx hb d_Fo_leaves_1 rfl hl (by decide) rfl (fun ls hl => ?_)
  refine lv_iconst (v := 0) hx hb d_Fo_leaves_2 (by decide) ?_
  refine lv_istore_n (lv' := [(2, .int 0), (1, .int 0), (0, .ref (ad 4))]) hx hb d_Fo_leaves_3 rfl hl (by decide) rfl (fun ls hl => ?_)
  have L4 : ∀ (n4 : Nat) (i : Nat), i ≤ n → n - i < n4 → ∀ (H : Heap) (locs : List Loc), XH D g ad (AX ad sz) s s.heap H locs u → ∀ ls : Array Slot, lv_has ls 3 [(2, .int (nI i)), (1, .int (sumF (fun t => cntF (fun k => isLfF (u.1 (63 + t) k)) 7) i)), (0, .ref (ad 4))] → W p l e (rmN 2 43) s m ([.ref (ad 4)] : List Value).toArray below meth c H locs 0 0 (MQ below (va_Qi (fun v w => v = sumF (fun t => cntF (fun k => isLfF (u.1 (63 + t) k)) 7) n ∧ w = u) (XB D g ad sz) (AX ad sz)) ([.ref (ad 4)] : List Value).toArray s 0 0 (AX ad sz)) (F0 m 4 ls []) := by
    intro n4
    induction n4 with
    | zero => intro i h1 hz; exact absurd hz (by omega)
    | succ n4 ih4 =>
      intro i h1 hnL4 H locs hw ls hl
      refine lv_iload_n hx hb d_Fo_leaves_4 rfl (lv_at hl 0 rfl) ?_
      refine lv_aload_n hx hb d_Fo_leaves_5 rfl (lv_at hl 2 rfl) ?_
      refine x_get (ci := 0) (k := 4) hx hb ht in_Fo hown hw (by decide) o_Fo rfl 1 (by decide) (ht _ w_81) rfl d_Fo_leaves_6 ?_
      rw [show (u.2.2.1 2) = (nI n) from hs]
      refine lv_icmp_ge (tgt := 30) hx hb d_Fo_leaves_9 (by decide) (fun c9 => ?_) (fun c9 => ?_)
      · have h9 : (n) ≤ (i) := (nI_leI (a := n) (b := i) (by omega) (by omega)).mp c9
        refine lv_iload_n hx hb d_Fo_leaves_30 rfl (lv_at hl 1 rfl) ?_
        exact x_iret hsz hx hb hr hlk hw ⟨by rw [show i = n by omega], rfl⟩ d_Fo_leaves_31
      · have h9 : ¬ (n) ≤ (i) := fun hz9 => c9 ((nI_leI (a := n) (b := i) (by omega) (by omega)).mpr hz9)
        have hi4 : i < 4 := by omega
        refine lv_iload_n hx hb d_Fo_leaves_12 rfl (lv_at hl 1 rfl) ?_
        refine lv_aload_n hx hb d_Fo_leaves_13 rfl (lv_at hl 2 rfl) ?_
        refine x_get (ci := 0) (k := 4) hx hb ht in_Fo hown hw (by decide) o_Fo rfl 0 (by decide) (ht _ w_80) rfl d_Fo_leaves_14 ?_
        refine lv_iload_n hx hb d_Fo_leaves_17 rfl (lv_at hl 0 rfl) ?_
        refine x_aald (k := 13) (b := 59) (n := 4) (t0 := 4) hx hb hw (by decide) (fun _ => rfl) rfl rfl (vp_in_nI (by omega) (by decide)) d_Fo_leaves_18 ?_
        rw [nI_clamp (n := i) (by omega)]
        refine x_ci (x_runV (na := 0) (k := 59 + i) (As := []) (rest := [.int (sumF (fun t => cntF (fun k => isLfF (u.1 (63 + t) k)) 7) i)]) (ci := 5) ⟨hx, hb, hml, hown, ht⟩ (m_Tr_leaves i hi4 _) w_344 w_345 w_346 w_6 w_347 (by decide +kernel) ⟨rfl, rfl, by decide, by decide⟩ hw (by omega) (o_Tr hi4) rfl rfl hl.1 rfl (Nat.le_of_ble_eq_true rfl) d_Fo_leaves_19 ⟨Nat.zero_le _, Nat.zero_le _⟩) hw hA (fun v19 u19 H locs hp hw => ?_)
        obtain ⟨hv9, hu⟩ := hp
        subst hv9
        have hu := hu.symm
        subst hu
        refine lv_iadd hx hb d_Fo_leaves_22 ?_
        refine lv_istore_n (lv' := [(1, .int ((sumF (fun t => cntF (fun k => isLfF (u.1 (63 + t) k)) 7) i) + (cntF (fun n => isLfF (u.1 (63 + i) n)) 7))), (2, .int (nI i)), (0, .ref (ad 4))]) hx hb d_Fo_leaves_23 rfl hl (by decide) rfl (fun ls hl => ?_)
        refine lv_iinc (v := (nI (i + 1))) (lv' := [(2, .int (nI (i + 1))), (1, .int ((sumF (fun t => cntF (fun k => isLfF (u.1 (63 + t) k)) 7) i) + (cntF (fun n => isLfF (u.1 (63 + i) n)) 7))), (0, .ref (ad 4))]) hx hb d_Fo_leaves_24 hl (k := 1) rfl (nI_1 _) (by decide) rfl (fun ls hl => ?_)
        refine lv_goto (tgt := 4) hx hb d_Fo_leaves_27 (by decide) ?_
        exact ih4 (i + 1) (by omega) (by omega) _ _ hw ls (lv_sub hl [0, 1, 2] rfl)
  exact L4 ((n - 0) + 1) (0) (by omega) (by omega) _ _ hw ls (lv_sub hl [0, 1, 2] rfl))
set_option maxHeartbeats 4000000 in
set_option maxRecDepth 100000 in
theorem m_Fo_splits {l : Launch} {D : va_G} {g : Ids} {ad : Nat → Nat} {u : St} (n : Nat) (hn4 : n ≤ 4) (hs : u.2.2.1 2 = nI n) : XMi l D g ad y_Fo_splits b_Fo_splits 3 ((some .int)) (rmN 2 43) [.ref (ad 4)] u (fun v w => v = sumF (fun t => cntF (fun k => isSpF (u.1 (63 + t) k)) 7) n ∧ w = u) := fun sz => x_met (by decide) (Nat.le_of_ble_eq_true rfl) (fun p e s m below meth c hsz hx hb hr hml hown ht hlk hw ls hl => by
  have hA : ∀ q, s.heap.size ≤ q → AX ad sz q := fun q h => Or.inr (hsz ▸ h)
  have hl : lv_has ls 3 [(0, .ref (ad 4))] := hl
  refine lv_iconst (v := 0) hx hb d_Fo_splits_0 (by decide) ?_
  refine lv_istore_n (lv' := [(1, .int 0), (0, .ref (ad 4))]) hx hb d_Fo_splits_1 rfl hl (by decide) rfl (fun ls hl => ?_)
  refine lv_iconst (v := 0) hx hb d_Fo_splits_2 (by decide) ?_
  refine lv_istore_n (lv' := [(2, .int 0), (1, .int 0), (0, .ref (ad 4))]) hx hb d_Fo_splits_3 rfl hl (by decide) rfl (fun ls hl => ?_)
  have L4 : ∀ (n4 : Nat) (i : Nat), i ≤ n → n - i < n4 → ∀ (H : Heap) (locs : List Loc), XH D g ad (AX ad sz) s s.heap H locs u → ∀ ls : Array Slot, lv_has ls 3 [(2, .int (nI i)), (1, .int (sumF (fun t => cntF (fun k => isSpF (u.1 (63 + t) k)) 7) i)), (0, .ref (ad 4))] → W p l e (rmN 2 43) s m ([.ref (ad 4)] : List Value).toArray below meth c H locs 0 0 (MQ below (va_Qi (fun v w => v = sumF (fun t => cntF (fun k => isSpF (u.1 (63 + t) k)) 7) n ∧ w = u) (XB D g ad sz) (AX ad sz)) ([.ref (ad 4)] : List Value).toArray s 0 0 (AX ad sz)) (F0 m 4 ls []) := by
    intro n4
    induction n4 with
    | zero => intro i h1 hz; exact absurd hz (by omega)
    | succ n4 ih4 =>
      intro i h1 hnL4 H locs hw ls hl
      refine lv_iload_n hx hb d_Fo_splits_4 rfl (lv_at hl 0 rfl) ?_
      refine lv_aload_n hx hb d_Fo_splits_5 rfl (lv_at hl 2 rfl) ?_
      refine x_get (ci := 0) (k := 4) hx hb ht in_Fo hown hw (by decide) o_Fo rfl 1 (by decide) (ht _ w_81) rfl d_Fo_splits_6 ?_
      rw [show (u.2.2.1 2) = (nI n) from hs]
      refine lv_icmp_ge (tgt := 30) hx hb d_Fo_splits_9 (by decide) (fun c9 => ?_) (fun c9 => ?_)
      · have h9 : (n) ≤ (i) := (nI_leI (a := n) (b := i) (by omega) (by omega)).mp c9
        refine lv_iload_n hx hb d_Fo_splits_30 rfl (lv_at hl 1 rfl) ?_
        exact x_iret hsz hx hb hr hlk hw ⟨by rw [show i = n by omega], rfl⟩ d_Fo_splits_31
      · have h9 : ¬ (n) ≤ (i) := fun hz9 => c9 ((nI_leI (a := n) (b := i) (by omega) (by omega)).mpr hz9)
        have hi4 : i < 4 := by omega
        refine lv_iload_n hx hb d_Fo_splits_12 rfl (lv_at hl 1 rfl) ?_
        refine lv_aload_n hx hb d_Fo_splits_13 rfl (lv_at hl 2 rfl) ?_
        refine x_get (ci := 0) (k := 4) hx hb ht in_Fo hown hw (by decide) o_Fo rfl 0 (by decide) (ht _ w_80) rfl d_Fo_splits_14 ?_
        refine lv_iload_n hx hb d_Fo_splits_17 rfl (lv_at hl 0 rfl) ?_
        refine x_aald (k := 13) (b := 59) (n := 4) (t0 := 4) hx hb hw (by decide) (fun _ => rfl) rfl rfl (vp_in_nI (by omega) (by decide)) d_Fo_splits_18 ?_
        rw [nI_clamp (n := i) (by omega)]
        refine x_ci (x_runV (na := 0) (k := 59 + i) (As := []) (rest := [.int (sumF (fun t => cntF (fun k => isSpF (u.1 (63 + t) k)) 7) i)]) (ci := 5) ⟨hx, hb, hml, hown, ht⟩ (m_Tr_splits i hi4 _) w_468 w_469 w_470 w_6 w_471 (by decide +kernel) ⟨rfl, rfl, by decide, by decide⟩ hw (by omega) (o_Tr hi4) rfl rfl hl.1 rfl (Nat.le_of_ble_eq_true rfl) d_Fo_splits_19 ⟨Nat.zero_le _, Nat.zero_le _⟩) hw hA (fun v19 u19 H locs hp hw => ?_)
        obtain ⟨hv9, hu⟩ := hp
        subst hv9
        have hu := hu.symm
        subst hu
        refine lv_iadd hx hb d_Fo_splits_22 ?_
        refine lv_istore_n (lv' := [(1, .int ((sumF (fun t => cntF (fun k => isSpF (u.1 (63 + t) k)) 7) i) + (cntF (fun n => isSpF (u.1 (63 + i) n)) 7))), (2, .int (nI i)), (0, .ref (ad 4))]) hx hb d_Fo_splits_23 rfl hl (by decide) rfl (fun ls hl => ?_)
        refine lv_iinc (v := (nI (i + 1))) (lv' := [(2, .int (nI (i + 1))), (1, .int ((sumF (fun t => cntF (fun k => isSpF (u.1 (63 + t) k)) 7) i) + (cntF (fun n => isSpF (u.1 (63 + i) n)) 7))), (0, .ref (ad 4))]) hx hb d_Fo_splits_24 hl (k := 1) rfl (nI_1 _) (by decide) rfl (fun ls hl => ?_)
        refine lv_goto (tgt := 4) hx hb d_Fo_splits_27 (by decide) ?_
        exact ih4 (i + 1) (by omega) (by omega) _ _ hw ls (lv_sub hl [0, 1, 2] rfl)
  exact L4 ((n - 0) + 1) (0) (by omega) (by omega) _ _ hw ls (lv_sub hl [0, 1, 2] rfl))
set_option maxHeartbeats 4000000 in
set_option maxRecDepth 100000 in
theorem m_Fo_valueFor {l : Launch} {D : va_G} {g : Ids} {ad : Nat → Nat} {u : St} (n : Nat) (k : Nat) (hn4 : n ≤ 4) (hs : u.2.2.1 2 = nI n) (hk : k < 90) (h1 : xk k = 1) (h5 : xn k = 5) (hT : ∀ t, t < n → ∀ j, j < 7 → u.1 (63 + t) j < 5) : XMl l D g ad y_Fo_valueFor b_Fo_valueFor 5 ((some .long)) (rmN 2 45) [.ref (ad 4), .ref (ad k)] u (fun v w => v = scoreF u k n ∧ w = u) := fun sz => x_met (by decide) (Nat.le_of_ble_eq_true rfl) (fun p e s m below meth c hsz hx hb hr hml hown ht hlk hw ls hl => by
  have hA : ∀ q, s.heap.size ≤ q → AX ad sz q := fun q h => Or.inr (hsz ▸ h)
  have hl : lv_has ls 5 [(0, .ref (ad 4)), (1, .ref (ad k))] := hl
  refine lv_lconst (v := 0) hx hb d_Fo_valueFor_0 (by decide) ?_
  refine lv_lstore_n (lv' := [(2, .long 0), (0, .ref (ad 4)), (1, .ref (ad k))]) hx hb d_Fo_valueFor_1 rfl hl (by decide) rfl (fun ls hl => ?_)
  refine lv_iconst (v := 0) hx hb d_Fo_valueFor_2 (by decide) ?_
  refine lv_istore (lv' := [(4, .int 0), (2, .long 0), (0, .ref (ad 4)), (1, .ref (ad k))]) hx hb d_Fo_valueFor_3 hl (by decide) rfl (fun ls hl => ?_)
  have L5 : ∀ (n5 : Nat) (i : Nat), i ≤ n → n - i < n5 → ∀ (H : Heap) (locs : List Loc), XH D g ad (AX ad sz) s s.heap H locs u → ∀ ls : Array Slot, lv_has ls 5 [(4, .int (nI i)), (2, .long (scoreF u k i)), (0, .ref (ad 4)), (1, .ref (ad k))] → W p l e (rmN 2 45) s m ([.ref (ad 4), .ref (ad k)] : List Value).toArray below meth c H locs 0 0 (MQ below (va_Ql (fun v w => v = scoreF u k n ∧ w = u) (XB D g ad sz) (AX ad sz)) ([.ref (ad 4), .ref (ad k)] : List Value).toArray s 0 0 (AX ad sz)) (F0 m 5 ls []) := by
    intro n5
    induction n5 with
    | zero => intro i hin hz; exact absurd hz (by omega)
    | succ n5 ih5 =>
      intro i hin hnL5 H locs hw ls hl
      refine lv_iload hx hb d_Fo_valueFor_5 (lv_at hl 0 rfl) ?_
      refine lv_aload_n hx hb d_Fo_valueFor_7 rfl (lv_at hl 2 rfl) ?_
      refine x_get (ci := 0) (k := 4) hx hb ht in_Fo hown hw (by decide) o_Fo rfl 1 (by decide) (ht _ w_81) rfl d_Fo_valueFor_8 ?_
      rw [show (u.2.2.1 2) = (nI n) from hs]
      refine lv_icmp_ge (tgt := 34) hx hb d_Fo_valueFor_11 (by decide) (fun c11 => ?_) (fun c11 => ?_)
      · have h11 : (n) ≤ (i) := (nI_leI (a := n) (b := i) (by omega) (by omega)).mp c11
        refine lv_lload_n hx hb d_Fo_valueFor_34 rfl (lv_at hl 1 rfl) ?_
        exact x_lret hsz hx hb hr hlk hw ⟨by rw [show i = n by omega], rfl⟩ d_Fo_valueFor_35
      · have h11 : ¬ (n) ≤ (i) := fun hz9 => c11 ((nI_leI (a := n) (b := i) (by omega) (by omega)).mpr hz9)
        have hi4 : i < 4 := by omega
        refine lv_lload_n hx hb d_Fo_valueFor_14 rfl (lv_at hl 1 rfl) ?_
        refine lv_aload_n hx hb d_Fo_valueFor_15 rfl (lv_at hl 2 rfl) ?_
        refine x_get (ci := 0) (k := 4) hx hb ht in_Fo hown hw (by decide) o_Fo rfl 0 (by decide) (ht _ w_80) rfl d_Fo_valueFor_16 ?_
        refine lv_iload hx hb d_Fo_valueFor_19 (lv_at hl 0 rfl) ?_
        refine x_aald (k := 13) (b := 59) (n := 4) (t0 := 4) hx hb hw (by decide) (fun _ => rfl) rfl rfl (vp_in_nI (by omega) (by decide)) d_Fo_valueFor_21 ?_
        rw [nI_clamp (n := i) (by omega)]
        refine lv_aload_n hx hb d_Fo_valueFor_22 rfl (lv_at hl 3 rfl) ?_
        refine x_cl (x_runV (na := 1) (k := 59 + i) (As := [.ref (ad k)]) (rest := [.long (scoreF u k i)]) (ci := 5) ⟨hx, hb, hml, hown, ht⟩ (m_Tr_valueFor i k hi4 hk h1 h5 (hT i (by omega)) _) w_397 w_332 w_333 w_6 w_334 (by decide +kernel) ⟨rfl, rfl, by decide, by decide⟩ hw (by omega) (o_Tr hi4) rfl rfl hl.1 rfl (Nat.le_of_ble_eq_true rfl) d_Fo_valueFor_23 ⟨Nat.zero_le _, Nat.zero_le _⟩) hw hA (fun v23 u23 H locs hp hw => ?_)
        obtain ⟨hv9, hu⟩ := hp
        subst hv9
        have hu := hu.symm
        subst hu
        refine lv_ladd hx hb d_Fo_valueFor_26 ?_
        refine lv_lstore_n (lv' := [(2, .long ((scoreF u k i) + (u.2.1 (71 + i) (walkN (u.1 (63 + i)) (u.1 (67 + i)) (u.1 k) 2 0)))), (4, .int (nI i)), (0, .ref (ad 4)), (1, .ref (ad k))]) hx hb d_Fo_valueFor_27 rfl hl (by decide) rfl (fun ls hl => ?_)
        refine lv_iinc (v := (nI (i + 1))) (lv' := [(4, .int (nI (i + 1))), (2, .long ((scoreF u k i) + (u.2.1 (71 + i) (walkN (u.1 (63 + i)) (u.1 (67 + i)) (u.1 k) 2 0)))), (0, .ref (ad 4)), (1, .ref (ad k))]) hx hb d_Fo_valueFor_28 hl (k := 1) rfl (nI_1 _) (by decide) rfl (fun ls hl => ?_)
        refine lv_goto (tgt := 5) hx hb d_Fo_valueFor_31 (by decide) ?_
        exact ih5 (i + 1) (by omega) (by omega) _ _ hw ls (lv_sub hl [0, 1, 2, 3] rfl)
  exact L5 ((n - 0) + 1) (0) (by omega) (by omega) _ _ hw ls (lv_sub hl [0, 1, 2, 3] rfl))
set_option maxHeartbeats 4000000 in
set_option maxRecDepth 100000 in
theorem m_Ra_clear {l : Launch} {D : va_G} {g : Ids} {ad : Nat → Nat} {u : St} (k : Nat) (hk67 : k = 6 ∨ k = 7) : XMv l D g ad y_Ra_clear b_Ra_clear 1 (none) (rmN 0 0) [.ref (ad k)] u (fun w => w = sF u (k + 2) 0) := fun sz => x_met (by decide) (Nat.le_of_ble_eq_true rfl) (fun p e s m below meth c hsz hx hb hr hml hown ht hlk hw ls hl => by
  have hA : ∀ q, s.heap.size ≤ q → AX ad sz q := fun q h => Or.inr (hsz ▸ h)
  have hl : lv_has ls 1 [(0, .ref (ad k))] := hl
  refine lv_aload_n hx hb d_Ra_clear_0 rfl (lv_at hl 0 rfl) ?_
  refine lv_iconst (v := 0) hx hb d_Ra_clear_1 (by decide) ?_
  refine x_puti (ci := 3) (k := k) hx hb ht in_Ra t_Ra t_Ra_ok n_Ra hown hw (by omega) (o_Ra hk67) rfl 2 ((k + 2)) (by decide) (ht _ w_136) rfl (by decide +kernel) (Nat.le_of_ble_eq_true rfl) (by rcases hk67 with rfl | rfl <;> rfl) (by rcases hk67 with rfl | rfl <;> rfl) d_Ra_clear_2 (fun H locs hw => ?_)
  exact x_vret hsz hx hb hr hlk hw rfl d_Ra_clear_5)
set_option maxHeartbeats 4000000 in
set_option maxRecDepth 100000 in
theorem m_Ra_length {l : Launch} {D : va_G} {g : Ids} {ad : Nat → Nat} {u : St} (k : Nat) (hk67 : k = 6 ∨ k = 7) : XMi l D g ad y_Ra_length b_Ra_length 1 ((some .int)) (rmN 0 0) [.ref (ad k)] u (fun v w => v = u.2.2.1 (k + 2) ∧ w = u) := fun sz => x_met (by decide) (Nat.le_of_ble_eq_true rfl) (fun p e s m below meth c hsz hx hb hr hml hown ht hlk hw ls hl => by
  have hA : ∀ q, s.heap.size ≤ q → AX ad sz q := fun q h => Or.inr (hsz ▸ h)
  have hl : lv_has ls 1 [(0, .ref (ad k))] := hl
  refine lv_aload_n hx hb d_Ra_length_0 rfl (lv_at hl 0 rfl) ?_
  refine x_get (ci := 3) (k := k) hx hb ht in_Ra hown hw (by omega) (o_Ra hk67) rfl 2 (by decide) (ht _ w_136) rfl d_Ra_length_1 ?_
  exact x_iret hsz hx hb hr hlk hw ⟨rfl, rfl⟩ d_Ra_length_4)
set_option maxHeartbeats 4000000 in
set_option maxRecDepth 100000 in
theorem m_Ra_documentAt {l : Launch} {D : va_G} {g : Ids} {ad : Nat → Nat} {u : St} (k : Nat) (i : Nat) (hk67 : k = 6 ∨ k = 7) (hi16 : i < 16) : XMi l D g ad y_Ra_documentAt b_Ra_documentAt 2 ((some .int)) (rmN 0 0) [.ref (ad k), .int (nI i)] u (fun v w => v = u.1 (2 * k + 6) i ∧ w = u) := fun sz => x_met (by decide) (Nat.le_of_ble_eq_true rfl) (fun p e s m below meth c hsz hx hb hr hml hown ht hlk hw ls hl => by
  have hA : ∀ q, s.heap.size ≤ q → AX ad sz q := fun q h => Or.inr (hsz ▸ h)
  have hl : lv_has ls 2 [(0, .ref (ad k)), (1, .int (nI i))] := hl
  refine lv_aload_n hx hb d_Ra_documentAt_0 rfl (lv_at hl 0 rfl) ?_
  refine x_get (ci := 3) (k := k) hx hb ht in_Ra hown hw (by omega) (o_Ra hk67) rfl 0 (by decide) (ht _ w_134) rfl d_Ra_documentAt_1 ?_
  refine lv_iload_n hx hb d_Ra_documentAt_4 rfl (lv_at hl 1 rfl) ?_
  refine x_iald (k := 2 * k + 6) hx hb hw (by omega) (by rcases hk67 with rfl | rfl <;> rfl) (vin (N := 16) (by omega) (by rcases hk67 with rfl | rfl <;> rfl) (by omega)) d_Ra_documentAt_5 ?_
  rw [nI_clamp (n := i) (by omega)]
  exact x_iret hsz hx hb hr hlk hw ⟨rfl, rfl⟩ d_Ra_documentAt_6)
set_option maxHeartbeats 4000000 in
set_option maxRecDepth 100000 in
theorem m_Ra_cutAfter {l : Launch} {D : va_G} {g : Ids} {ad : Nat → Nat} {u : St} (k : Nat) (n : Int32) (hk67 : k = 6 ∨ k = 7) : XMv l D g ad y_Ra_cutAfter b_Ra_cutAfter 2 (none) (rmN 1 21) [.ref (ad k), .int n] u (fun w => w = sF u (k + 2) (if n < u.2.2.1 (k + 2) then n else u.2.2.1 (k + 2))) := fun sz => x_met (by decide) (Nat.le_of_ble_eq_true rfl) (fun p e s m below meth c hsz hx hb hr hml hown ht hlk hw ls hl => by
  have hA : ∀ q, s.heap.size ≤ q → AX ad sz q := fun q h => Or.inr (hsz ▸ h)
  have hl : lv_has ls 2 [(0, .ref (ad k)), (1, .int n)] := hl
  refine lv_aload_n hx hb d_Ra_cutAfter_0 rfl (lv_at hl 0 rfl) ?_
  refine lv_aload_n hx hb d_Ra_cutAfter_1 rfl (lv_at hl 0 rfl) ?_
  refine x_get (ci := 3) (k := k) hx hb ht in_Ra hown hw (by omega) (o_Ra hk67) rfl 2 (by decide) (ht _ w_136) rfl d_Ra_cutAfter_2 ?_
  refine lv_iload_n hx hb d_Ra_cutAfter_5 rfl (lv_at hl 1 rfl) ?_
  refine va_mmin (x := (u.2.2.1 (k + 2))) (y := n) hx hb (by rw [hml]; exact hl.1.symm) hown (ht _ w_380) (ht _ w_281) (ht _ w_10) (ht _ w_282) (by decide) (Nat.le_of_ble_eq_true rfl) (Nat.zero_le _) (Nat.zero_le _) d_Ra_cutAfter_6 ?_
  refine x_puti (ci := 3) (k := k) hx hb ht in_Ra t_Ra t_Ra_ok n_Ra hown hw (by omega) (o_Ra hk67) rfl 2 ((k + 2)) (by decide) (ht _ w_136) rfl (by decide +kernel) (Nat.le_of_ble_eq_true rfl) (by rcases hk67 with rfl | rfl <;> rfl) (by rcases hk67 with rfl | rfl <;> rfl) d_Ra_cutAfter_9 (fun H locs hw => ?_)
  exact x_vret hsz hx hb hr hlk hw rfl d_Ra_cutAfter_12)
set_option maxHeartbeats 4000000 in
set_option maxRecDepth 100000 in
theorem m_Ra_insert {l : Launch} {D : va_G} {g : Ids} {ad : Nat → Nat} {u : St} (k : Nat) (n : Nat) (d : Int32) (x : Int64) (hk67 : k = 6 ∨ k = 7) (hn16 : n ≤ 16) (hln : u.2.2.1 (k + 2) = nI n) : XMv l D g ad y_Ra_insert b_Ra_insert 5 (none) (rmN 0 0) [.ref (ad k), .int d, .long x] u (fun w => w = insF u k d x n) := fun sz => x_met (by decide) (Nat.le_of_ble_eq_true rfl) (fun p e s m below meth c hsz hx hb hr hml hown ht hlk hw ls hl => by
  have hA : ∀ q, s.heap.size ≤ q → AX ad sz q := fun q h => Or.inr (hsz ▸ h)
  have hl : lv_has ls 5 [(0, .ref (ad k)), (1, .int d), (2, .long x)] := hl
  refine lv_aload_n hx hb d_Ra_insert_0 rfl (lv_at hl 0 rfl) ?_
  refine x_get (ci := 3) (k := k) hx hb ht in_Ra hown hw (by omega) (o_Ra hk67) rfl 2 (by decide) (ht _ w_136) rfl d_Ra_insert_1 ?_
  rw [show (u.2.2.1 (k + 2)) = (nI n) from hln]
  refine lv_bipush (v := 16) hx hb d_Ra_insert_4 (by decide) ?_
  refine lv_icmp_lt (tgt := 10) hx hb d_Ra_insert_6 (by decide) (fun c6 => ?_) (fun c6 => ?_)
  · have h6 : (n) < (16) := (nI_ltI (a := n) (b := 16) (by omega) (by omega)).mp c6
    refine lv_aload_n hx hb d_Ra_insert_10 rfl (lv_at hl 0 rfl) ?_
    refine x_get (ci := 3) (k := k) hx hb ht in_Ra hown hw (by omega) (o_Ra hk67) rfl 2 (by decide) (ht _ w_136) rfl d_Ra_insert_11 ?_
    rw [show (u.2.2.1 (k + 2)) = (nI n) from hln]
    refine lv_istore (lv' := [(4, .int (nI n)), (0, .ref (ad k)), (1, .int d), (2, .long x)]) hx hb d_Ra_insert_14 hl (by decide) rfl (fun ls hl => ?_)
    have L16 : ∀ (n16 : Nat) (i : Nat) (w : St), i ≤ n → shiftF w k x i = shiftF u k x n → w.2.2.1 (k + 2) = nI n → i < n16 → ∀ (H : Heap) (locs : List Loc), XH D g ad (AX ad sz) s s.heap H locs w → ∀ ls : Array Slot, lv_has ls 5 [(4, .int (nI i)), (0, .ref (ad k)), (1, .int d), (2, .long x)] → W p l e (rmN 0 0) s m ([.ref (ad k), .int d, .long x] : List Value).toArray below meth c H locs 0 0 (MQ below (va_Qv (fun w => w = insF u k d x n) (XB D g ad sz) (AX ad sz)) ([.ref (ad k), .int d, .long x] : List Value).toArray s 0 0 (AX ad sz)) (F0 m 16 ls []) := by
      intro n16
      induction n16 with
      | zero => intro i w hi hsh hlw hz; exact absurd hz (by omega)
      | succ n16 ih16 =>
        intro i w hi hsh hlw hnL16 H locs hw ls hl
        refine lv_iload hx hb d_Ra_insert_16 (lv_at hl 0 rfl) ?_
        refine lv_if_le (tgt := 73) hx hb d_Ra_insert_18 (by decide) (fun c18 => ?_) (fun c18 => ?_)
        · have h18 : (i) ≤ (0) := (nI_leI (a := i) (b := 0) (by omega) (by omega)).mp c18
          refine lv_aload_n hx hb d_Ra_insert_73 rfl (lv_at hl 1 rfl) ?_
          refine x_get (ci := 3) (k := k) hx hb ht in_Ra hown hw (by omega) (o_Ra hk67) rfl 1 (by decide) (ht _ w_135) rfl d_Ra_insert_74 ?_
          refine lv_iload hx hb d_Ra_insert_77 (lv_at hl 0 rfl) ?_
          refine lv_lload_n hx hb d_Ra_insert_79 rfl (lv_at hl 3 rfl) ?_
          refine x_last (k := 2 * k + 7) hx hb hw (by omega) (by rcases hk67 with rfl | rfl <;> rfl) (vin (N := 16) (by omega) (by rcases hk67 with rfl | rfl <;> rfl) (by omega)) d_Ra_insert_80 (fun H locs hw => ?_)
          rw [nI_clamp (n := i) (by omega)] at hw
          refine lv_aload_n hx hb d_Ra_insert_81 rfl (lv_at hl 1 rfl) ?_
          refine x_get (ci := 3) (k := k) hx hb ht in_Ra hown hw (by omega) (o_Ra hk67) rfl 0 (by decide) (ht _ w_134) rfl d_Ra_insert_82 ?_
          refine lv_iload hx hb d_Ra_insert_85 (lv_at hl 0 rfl) ?_
          refine lv_iload_n hx hb d_Ra_insert_87 rfl (lv_at hl 2 rfl) ?_
          refine x_iast (k := 2 * k + 6) hx hb hw (by omega) (by rcases hk67 with rfl | rfl <;> rfl) (vin (N := 16) (by omega) (by rcases hk67 with rfl | rfl <;> rfl) (by omega)) d_Ra_insert_88 (fun H locs hw => ?_)
          rw [nI_clamp (n := i) (by omega)] at hw
          refine lv_aload_n hx hb d_Ra_insert_89 rfl (lv_at hl 1 rfl) ?_
          refine lv_dup hx hb d_Ra_insert_90 rfl ?_
          refine x_get (ci := 3) (k := k) hx hb ht in_Ra hown hw (by omega) (o_Ra hk67) rfl 2 (by decide) (ht _ w_136) rfl d_Ra_insert_91 ?_
          rw [show ((sI (sL w (2 * k + 7) i x) (2 * k + 6) i d).2.2.1 (k + 2)) = (nI n) from hlw]
          refine lv_iconst (v := 1) hx hb d_Ra_insert_94 (by decide) ?_
          refine lv_iadd hx hb d_Ra_insert_95 ?_
          rw [show ((nI n) + 1) = (nI (n + 1)) from nI_add _ _]
          refine x_puti (ci := 3) (k := k) hx hb ht in_Ra t_Ra t_Ra_ok n_Ra hown hw (by omega) (o_Ra hk67) rfl 2 ((k + 2)) (by decide) (ht _ w_136) rfl (by decide +kernel) (Nat.le_of_ble_eq_true rfl) (by rcases hk67 with rfl | rfl <;> rfl) (by rcases hk67 with rfl | rfl <;> rfl) d_Ra_insert_96 (fun H locs hw => ?_)
          exact x_vret hsz hx hb hr hlk hw (by have h9 := h6; (first | (obtain rfl : i = 0 := by omega) | skip); rw [insF_eq h9, ← hsh]; first | rfl | (rw [shiftF_n (ge_of_cmp c32)])) d_Ra_insert_99
        · have h18 : ¬ (i) ≤ (0) := fun hz9 => c18 ((nI_leI (a := i) (b := 0) (by omega) (by omega)).mpr hz9)
          obtain ⟨j, rfl⟩ : ∃ j, i = j + 1 := ⟨i - 1, by omega⟩
          refine lv_aload_n hx hb d_Ra_insert_21 rfl (lv_at hl 1 rfl) ?_
          refine x_get (ci := 3) (k := k) hx hb ht in_Ra hown hw (by omega) (o_Ra hk67) rfl 1 (by decide) (ht _ w_135) rfl d_Ra_insert_22 ?_
          refine lv_iload hx hb d_Ra_insert_25 (lv_at hl 0 rfl) ?_
          refine lv_iconst (v := 1) hx hb d_Ra_insert_27 (by decide) ?_
          refine lv_isub hx hb d_Ra_insert_28 ?_
          rw [show ((nI (j + 1)) - 1) = (nI j) from nI_pred _]
          refine x_lald (k := 2 * k + 7) hx hb hw (by omega) (by rcases hk67 with rfl | rfl <;> rfl) (vin (N := 16) (by omega) (by rcases hk67 with rfl | rfl <;> rfl) (by omega)) d_Ra_insert_29 ?_
          rw [nI_clamp (n := j) (by omega)]
          refine lv_lload_n hx hb d_Ra_insert_30 rfl (lv_at hl 3 rfl) ?_
          refine W.lcmp hx hb d_Ra_insert_31 ?_
          refine lv_if_ge (tgt := 73) hx hb d_Ra_insert_32 (by decide) (fun c32 => ?_) (fun c32 => ?_)
          · refine lv_aload_n hx hb d_Ra_insert_73 rfl (lv_at hl 1 rfl) ?_
            refine x_get (ci := 3) (k := k) hx hb ht in_Ra hown hw (by omega) (o_Ra hk67) rfl 1 (by decide) (ht _ w_135) rfl d_Ra_insert_74 ?_
            refine lv_iload hx hb d_Ra_insert_77 (lv_at hl 0 rfl) ?_
            refine lv_lload_n hx hb d_Ra_insert_79 rfl (lv_at hl 3 rfl) ?_
            refine x_last (k := 2 * k + 7) hx hb hw (by omega) (by rcases hk67 with rfl | rfl <;> rfl) (vin (N := 16) (by omega) (by rcases hk67 with rfl | rfl <;> rfl) (by omega)) d_Ra_insert_80 (fun H locs hw => ?_)
            rw [nI_clamp (n := j + 1) (by omega)] at hw
            refine lv_aload_n hx hb d_Ra_insert_81 rfl (lv_at hl 1 rfl) ?_
            refine x_get (ci := 3) (k := k) hx hb ht in_Ra hown hw (by omega) (o_Ra hk67) rfl 0 (by decide) (ht _ w_134) rfl d_Ra_insert_82 ?_
            refine lv_iload hx hb d_Ra_insert_85 (lv_at hl 0 rfl) ?_
            refine lv_iload_n hx hb d_Ra_insert_87 rfl (lv_at hl 2 rfl) ?_
            refine x_iast (k := 2 * k + 6) hx hb hw (by omega) (by rcases hk67 with rfl | rfl <;> rfl) (vin (N := 16) (by omega) (by rcases hk67 with rfl | rfl <;> rfl) (by omega)) d_Ra_insert_88 (fun H locs hw => ?_)
            rw [nI_clamp (n := j + 1) (by omega)] at hw
            refine lv_aload_n hx hb d_Ra_insert_89 rfl (lv_at hl 1 rfl) ?_
            refine lv_dup hx hb d_Ra_insert_90 rfl ?_
            refine x_get (ci := 3) (k := k) hx hb ht in_Ra hown hw (by omega) (o_Ra hk67) rfl 2 (by decide) (ht _ w_136) rfl d_Ra_insert_91 ?_
            rw [show ((sI (sL w (2 * k + 7) (j + 1) x) (2 * k + 6) (j + 1) d).2.2.1 (k + 2)) = (nI n) from hlw]
            refine lv_iconst (v := 1) hx hb d_Ra_insert_94 (by decide) ?_
            refine lv_iadd hx hb d_Ra_insert_95 ?_
            rw [show ((nI n) + 1) = (nI (n + 1)) from nI_add _ _]
            refine x_puti (ci := 3) (k := k) hx hb ht in_Ra t_Ra t_Ra_ok n_Ra hown hw (by omega) (o_Ra hk67) rfl 2 ((k + 2)) (by decide) (ht _ w_136) rfl (by decide +kernel) (Nat.le_of_ble_eq_true rfl) (by rcases hk67 with rfl | rfl <;> rfl) (by rcases hk67 with rfl | rfl <;> rfl) d_Ra_insert_96 (fun H locs hw => ?_)
            exact x_vret hsz hx hb hr hlk hw (by have h9 := h6; (first | (obtain rfl : i = 0 := by omega) | skip); rw [insF_eq h9, ← hsh]; first | rfl | (rw [shiftF_n (ge_of_cmp c32)])) d_Ra_insert_99
          · refine lv_aload_n hx hb d_Ra_insert_35 rfl (lv_at hl 1 rfl) ?_
            refine x_get (ci := 3) (k := k) hx hb ht in_Ra hown hw (by omega) (o_Ra hk67) rfl 1 (by decide) (ht _ w_135) rfl d_Ra_insert_36 ?_
            refine lv_iload hx hb d_Ra_insert_39 (lv_at hl 0 rfl) ?_
            refine lv_aload_n hx hb d_Ra_insert_41 rfl (lv_at hl 1 rfl) ?_
            refine x_get (ci := 3) (k := k) hx hb ht in_Ra hown hw (by omega) (o_Ra hk67) rfl 1 (by decide) (ht _ w_135) rfl d_Ra_insert_42 ?_
            refine lv_iload hx hb d_Ra_insert_45 (lv_at hl 0 rfl) ?_
            refine lv_iconst (v := 1) hx hb d_Ra_insert_47 (by decide) ?_
            refine lv_isub hx hb d_Ra_insert_48 ?_
            rw [show ((nI (j + 1)) - 1) = (nI j) from nI_pred _]
            refine x_lald (k := 2 * k + 7) hx hb hw (by omega) (by rcases hk67 with rfl | rfl <;> rfl) (vin (N := 16) (by omega) (by rcases hk67 with rfl | rfl <;> rfl) (by omega)) d_Ra_insert_49 ?_
            rw [nI_clamp (n := j) (by omega)]
            refine x_last (k := 2 * k + 7) hx hb hw (by omega) (by rcases hk67 with rfl | rfl <;> rfl) (vin (N := 16) (by omega) (by rcases hk67 with rfl | rfl <;> rfl) (by omega)) d_Ra_insert_50 (fun H locs hw => ?_)
            rw [nI_clamp (n := j + 1) (by omega)] at hw
            refine lv_aload_n hx hb d_Ra_insert_51 rfl (lv_at hl 1 rfl) ?_
            refine x_get (ci := 3) (k := k) hx hb ht in_Ra hown hw (by omega) (o_Ra hk67) rfl 0 (by decide) (ht _ w_134) rfl d_Ra_insert_52 ?_
            refine lv_iload hx hb d_Ra_insert_55 (lv_at hl 0 rfl) ?_
            refine lv_aload_n hx hb d_Ra_insert_57 rfl (lv_at hl 1 rfl) ?_
            refine x_get (ci := 3) (k := k) hx hb ht in_Ra hown hw (by omega) (o_Ra hk67) rfl 0 (by decide) (ht _ w_134) rfl d_Ra_insert_58 ?_
            refine lv_iload hx hb d_Ra_insert_61 (lv_at hl 0 rfl) ?_
            refine lv_iconst (v := 1) hx hb d_Ra_insert_63 (by decide) ?_
            refine lv_isub hx hb d_Ra_insert_64 ?_
            rw [show ((nI (j + 1)) - 1) = (nI j) from nI_pred _]
            refine x_iald (k := 2 * k + 6) hx hb hw (by omega) (by rcases hk67 with rfl | rfl <;> rfl) (vin (N := 16) (by omega) (by rcases hk67 with rfl | rfl <;> rfl) (by omega)) d_Ra_insert_65 ?_
            rw [nI_clamp (n := j) (by omega)]
            refine x_iast (k := 2 * k + 6) hx hb hw (by omega) (by rcases hk67 with rfl | rfl <;> rfl) (vin (N := 16) (by omega) (by rcases hk67 with rfl | rfl <;> rfl) (by omega)) d_Ra_insert_66 (fun H locs hw => ?_)
            rw [nI_clamp (n := j + 1) (by omega)] at hw
            refine lv_iinc (v := (nI j)) (lv' := [(4, .int (nI j)), (0, .ref (ad k)), (1, .int d), (2, .long x)]) hx hb d_Ra_insert_67 hl (k := 0) rfl (pk_m1 _) (by decide) rfl (fun ls hl => ?_)
            refine lv_goto (tgt := 16) hx hb d_Ra_insert_70 (by decide) ?_
            exact ih16 (j) ((sI (sL w (2 * k + 7) (j + 1) (w.2.1 (2 * k + 7) j)) (2 * k + 6) (j + 1) ((sL w (2 * k + 7) (j + 1) (w.2.1 (2 * k + 7) j)).1 (2 * k + 6) j))) (by omega) (by rw [← hsh]; exact (shiftF_y (lt_of_cmp c32)).symm) (hlw) (by omega) _ _ hw ls (lv_sub hl [0, 1, 2, 3] rfl)
    exact L16 ((n) + 1) (n) (u) (by omega) (rfl) (hln) (by omega) _ _ hw ls (lv_sub hl [0, 1, 2, 3] rfl)
  · have h6 : ¬ (n) < (16) := fun hz9 => c6 ((nI_ltI (a := n) (b := 16) (by omega) (by omega)).mpr hz9)
    exact x_vret hsz hx hb hr hlk hw (by rw [insF_no (by omega)]) d_Ra_insert_9)
