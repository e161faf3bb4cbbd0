theorem wtF_all {u : St} {x : Int32} {f : Nat} : ∀ t, (wtF u x f t).2.2.2.1 = u.1 ∧ (wtF u x f t).2.2.2.2.1 = u.2.1 ∧ (wtF u x f t).2.2.2.2.2.1 3 = u.2.2.1 3 := by
  intro t
  induction t with
  | zero => exact ⟨rfl, rfl, rfl⟩
  | succ t ih =>
    simp only [wtF]
    split
    · split
      · exact ih
      · exact ⟨by rw [wsF_1]; exact ih.1, by rw [wsF_2]; exact ih.2.1, by rw [wsF_3]; exact ih.2.2⟩
    · exact ih
theorem wtF_1 {u : St} {x : Int32} {f t : Nat} : (wtF u x f t).2.2.2.1 = u.1 := (wtF_all t).1
theorem wtF_3 {u : St} {x : Int32} {f t : Nat} : (wtF u x f t).2.2.2.2.2.1 3 = u.2.2.1 3 := (wtF_all t).2.2
def fsF (u : St) (x : Int32) (k : Nat) : Nat → St
  | 0 => sF (sG u 1 (worthI (u.2.2.2 0) (u.2.2.1 5))) 6 (-1)
  | f + 1 => (wtF (fsF u x k f) x f k).2.2.2
def sendF (u : St) (t n fe : Nat) : Nat → St
  | 0 => u
  | i + 1 => if u.1 17 i = nI n then sI (sendF u t n fe i) 17 i (nI (stepN (u.1 (67 + t)) (u.1 (38 + i)) n fe)) else sendF u t n fe i
set_option maxHeartbeats 4000000 in
set_option maxRecDepth 100000 in
theorem m_Gr_findSplit {l : Launch} {D : va_G} {g : Ids} {ad : Nat → Nat} {u : St} (x : Int32) (k : Nat) (hk16 : k ≤ 16) (hns : u.2.2.1 3 = nI k) (hord : ∀ f, f < 5 → ∀ i, i < k → ∃ j : Nat, j < 16 ∧ u.1 (54 + f) i = nI j) : XMi l D g ad y_Gr_findSplit b_Gr_findSplit 3 ((some .boolean)) (rmN 4 99) [.ref (ad 5), .int x] u (fun v w => v = (if (fsF u x k 5).2.2.1 6 = -1 then 0 else 1) ∧ w = fsF u x k 5) := fun sz => x_met (by decide) (Nat.le_of_ble_eq_true rfl) (fun p e s m below meth c hsz hx hb hr hml hown ht hlk hw ls hl => by
  have hA : ∀ q, s.heap.size ≤ q → AX ad sz q := fun q h => Or.inr (hsz ▸ h)
  have hl : lv_has ls 3 [(0, .ref (ad 5)), (1, .int x)] := hl
  refine lv_aload_n hx hb d_Gr_findSplit_0 rfl (lv_at hl 0 rfl) ?_
  refine lv_aload_n hx hb d_Gr_findSplit_1 rfl (lv_at hl 0 rfl) ?_
  refine x_get (ci := 1) (k := 5) hx hb ht in_Gr hown hw (by decide) o_Gr rfl 6 (by decide) (ht _ w_100) rfl d_Gr_findSplit_2 ?_
  refine lv_aload_n hx hb d_Gr_findSplit_5 rfl (lv_at hl 0 rfl) ?_
  refine x_get (ci := 1) (k := 5) hx hb ht in_Gr hown hw (by decide) o_Gr rfl 7 (by decide) (ht _ w_101) rfl d_Gr_findSplit_6 ?_
  refine x_cl (x_runS (na := 2) (As := [.long (u.2.2.2 0), .int (u.2.2.1 5)]) (rest := [.ref (ad 5)]) ⟨hx, hb, hml, hown, ht⟩ (m_Gr_worth (u.2.2.2 0) (u.2.2.1 5) _) w_301 w_302 w_7 w_303 (by decide +kernel) ⟨rfl, rfl, by decide, by decide⟩ hw rfl hl.1 rfl (Nat.le_of_ble_eq_true rfl) d_Gr_findSplit_9 ⟨Nat.zero_le _, Nat.zero_le _⟩) hw hA (fun v9 u9 H locs hp hw => ?_)
  obtain ⟨hv9, hu⟩ := hp
  subst hv9
  have hu := hu.symm
  subst hu
  refine x_putl (ci := 1) (k := 5) hx hb ht in_Gr t_Gr t_Gr_ok n_Gr hown hw (by decide) o_Gr rfl 8 (1) (by decide) (ht _ w_102) rfl (by decide +kernel) (Nat.le_of_ble_eq_true rfl) rfl rfl d_Gr_findSplit_12 (fun H locs hw => ?_)
  refine lv_aload_n hx hb d_Gr_findSplit_15 rfl (lv_at hl 0 rfl) ?_
  refine lv_iconst (v := (-1)) hx hb d_Gr_findSplit_16 (by decide) ?_
  refine x_puti (ci := 1) (k := 5) hx hb ht in_Gr t_Gr t_Gr_ok n_Gr hown hw (by decide) o_Gr rfl 9 (6) (by decide) (ht _ w_103) rfl (by decide +kernel) (Nat.le_of_ble_eq_true rfl) rfl rfl d_Gr_findSplit_17 (fun H locs hw => ?_)
  refine lv_iconst (v := 0) hx hb d_Gr_findSplit_20 (by decide) ?_
  refine lv_istore_n (lv' := [(2, .int 0), (0, .ref (ad 5)), (1, .int x)]) hx hb d_Gr_findSplit_21 rfl hl (by decide) rfl (fun ls hl => ?_)
  have L22 : ∀ (n22 : Nat) (f : Nat) (w : St), f ≤ 5 → fsF u x k f = w → w.1 = u.1 → w.2.2.1 3 = nI k → 5 - f < n22 → ∀ (H : Heap) (locs : List Loc), XH D g ad (AX ad sz) s s.heap H locs w → ∀ ls : Array Slot, lv_has ls 3 [(2, .int (nI f)), (0, .ref (ad 5)), (1, .int x)] → W p l e (rmN 4 99) s m ([.ref (ad 5), .int x] : List Value).toArray below meth c H locs 0 0 (MQ below (va_Qi (fun v w => v = (if (fsF u x k 5).2.2.1 6 = -1 then 0 else 1) ∧ w = fsF u x k 5) (XB D g ad sz) (AX ad sz)) ([.ref (ad 5), .int x] : List Value).toArray s 0 0 (AX ad sz)) (F0 m 22 ls []) := by
    intro n22
    induction n22 with
    | zero => intro f w h1 hv hw1 hw3 hz; exact absurd hz (by omega)
    | succ n22 ih22 =>
      intro f w h1 hv hw1 hw3 hnL22 H locs hw ls hl
      refine lv_iload_n hx hb d_Gr_findSplit_22 rfl (lv_at hl 0 rfl) ?_
      refine lv_iconst (v := 5) hx hb d_Gr_findSplit_23 (by decide) ?_
      refine lv_icmp_ge (tgt := 39) hx hb d_Gr_findSplit_24 (by decide) (fun c24 => ?_) (fun c24 => ?_)
      · have h24 : (5) ≤ (f) := (nI_leI (a := 5) (b := f) (by omega) (by omega)).mp c24
        refine lv_aload_n hx hb d_Gr_findSplit_39 rfl (lv_at hl 1 rfl) ?_
        refine x_get (ci := 1) (k := 5) hx hb ht in_Gr hown hw (by decide) o_Gr rfl 9 (by decide) (ht _ w_103) rfl d_Gr_findSplit_40 ?_
        refine lv_iconst (v := (-1)) hx hb d_Gr_findSplit_43 (by decide) ?_
        refine lv_icmp_eq (tgt := 51) hx hb d_Gr_findSplit_44 (by decide) (fun c44 => ?_) (fun c44 => ?_)
        · refine lv_iconst (v := 0) hx hb d_Gr_findSplit_51 (by decide) ?_
          exact x_zret hsz hx hb hr hlk hw rfl ⟨by rw [show f = 5 by omega] at hv; rw [hv]; simp [c24, c44], by rw [← hv, show f = 5 by omega]⟩ d_Gr_findSplit_52
        · refine lv_iconst (v := 1) hx hb d_Gr_findSplit_47 (by decide) ?_
          refine lv_goto (tgt := 52) hx hb d_Gr_findSplit_48 (by decide) ?_
          exact x_zret hsz hx hb hr hlk hw rfl ⟨by rw [show f = 5 by omega] at hv; rw [hv]; simp [c24, c44], by rw [← hv, show f = 5 by omega]⟩ d_Gr_findSplit_52
      · have h24 : ¬ (5) ≤ (f) := fun hz9 => c24 ((nI_leI (a := 5) (b := f) (by omega) (by omega)).mpr hz9)
        refine lv_aload_n hx hb d_Gr_findSplit_27 rfl (lv_at hl 1 rfl) ?_
        refine lv_iload_n hx hb d_Gr_findSplit_28 rfl (lv_at hl 2 rfl) ?_
        refine lv_iload_n hx hb d_Gr_findSplit_29 rfl (lv_at hl 0 rfl) ?_
        refine x_cv (x_runV (na := 2) (k := 5) (As := [.int x, .int (nI f)]) (rest := []) (ci := 1) ⟨hx, hb, hml, hown, ht⟩ (m_Gr_walkThresholds x f k (by omega) hk16 hw3 (by rw [hw1]; exact hord f (by omega)) _) w_307 w_309 s_6 w_7 w_310 (by decide +kernel) ⟨rfl, rfl, by decide, by decide⟩ hw (by decide) o_Gr rfl rfl hl.1 rfl (Nat.le_of_ble_eq_true rfl) d_Gr_findSplit_30 ⟨Nat.zero_le _, Nat.zero_le _⟩) hw hA (fun u30 H locs hp hw => ?_)
        have hu := hp.symm
        subst hu
        refine lv_iinc (v := (nI (f + 1))) (lv' := [(2, .int (nI (f + 1))), (0, .ref (ad 5)), (1, .int x)]) hx hb d_Gr_findSplit_33 hl (k := 0) rfl (nI_1 _) (by decide) rfl (fun ls hl => ?_)
        refine lv_goto (tgt := 22) hx hb d_Gr_findSplit_36 (by decide) ?_
        exact ih22 (f + 1) ((wtF w x f k).2.2.2) (by omega) (by rw [← hv]; rfl) (by rw [wtF_1]; exact hw1) (by rw [wtF_3]; exact hw3) (by omega) _ _ hw ls (lv_sub hl [0, 1, 2] rfl)
  exact L22 ((5 - 0) + 1) (0) ((sF (sG u 1 (worthI (u.2.2.2 0) (u.2.2.1 5))) 6 (-1))) (by omega) (rfl) (rfl) (hns) (by omega) _ _ hw ls (lv_sub hl [0, 1, 2] rfl))
set_option maxHeartbeats 4000000 in
set_option maxRecDepth 100000 in
theorem m_Gr_sendOn {l : Launch} {D : va_G} {g : Ids} {ad : Nat → Nat} {u : St} (t : Nat) (n : Nat) (fe : Nat) (k : Nat) (ht4 : t < 4) (hn3 : n < 3) (hfe5 : fe < 5) (hk16 : k ≤ 16) (hns : u.2.2.1 3 = nI k) (hfe : u.1 (63 + t) n = nI fe) : XMv l D g ad y_Gr_sendOn b_Gr_sendOn 4 (none) (rmN 1 22) [.ref (ad 5), .ref (ad (59 + t)), .int (nI n)] u (fun w => w = sendF u t n fe k) := fun sz => x_met (by decide) (Nat.le_of_ble_eq_true rfl) (fun p e s m below meth c hsz hx hb hr hml hown ht hlk hw ls hl => by
  have hA : ∀ q, s.heap.size ≤ q → AX ad sz q := fun q h => Or.inr (hsz ▸ h)
  have hl : lv_has ls 4 [(0, .ref (ad 5)), (1, .ref (ad (59 + t))), (2, .int (nI n))] := hl
  refine lv_iconst (v := 0) hx hb d_Gr_sendOn_0 (by decide) ?_
  refine lv_istore_n (lv' := [(3, .int 0), (0, .ref (ad 5)), (1, .ref (ad (59 + t))), (2, .int (nI n))]) hx hb d_Gr_sendOn_1 rfl hl (by decide) rfl (fun ls hl => ?_)
  have L2 : ∀ (n2 : Nat) (i : Nat) (w : St), i ≤ k → sendF u t n fe i = w → (∀ j, j ≠ 17 → w.1 j = u.1 j) → (∀ j, i ≤ j → w.1 17 j = u.1 17 j) → w.2 = u.2 → k - i < n2 → ∀ (H : Heap) (locs : List Loc), XH D g ad (AX ad sz) s s.heap H locs w → ∀ ls : Array Slot, lv_has ls 4 [(3, .int (nI i)), (0, .ref (ad 5)), (1, .ref (ad (59 + t))), (2, .int (nI n))] → W p l e (rmN 1 22) s m ([.ref (ad 5), .ref (ad (59 + t)), .int (nI n)] : List Value).toArray below meth c H locs 0 0 (MQ below (va_Qv (fun w => w = sendF u t n fe k) (XB D g ad sz) (AX ad sz)) ([.ref (ad 5), .ref (ad (59 + t)), .int (nI n)] : List Value).toArray s 0 0 (AX ad sz)) (F0 m 2 ls []) := by
    intro n2
    induction n2 with
    | zero => intro i w h1 hv hw0 hw1 hw2 hz; exact absurd hz (by omega)
    | succ n2 ih2 =>
      intro i w h1 hv hw0 hw1 hw2 hnL2 H locs hw ls hl
      refine lv_iload_n hx hb d_Gr_sendOn_2 rfl (lv_at hl 0 rfl) ?_
      refine lv_aload_n hx hb d_Gr_sendOn_3 rfl (lv_at hl 1 rfl) ?_
      refine x_get (ci := 1) (k := 5) hx hb ht in_Gr hown hw (by decide) o_Gr rfl 3 (by decide) (ht _ w_97) rfl d_Gr_sendOn_4 ?_
      rw [show (w.2.2.1 3) = (nI k) from by rw [hw2]; exact hns]
      refine lv_icmp_ge (tgt := 43) hx hb d_Gr_sendOn_7 (by decide) (fun c7 => ?_) (fun c7 => ?_)
      · have h7 : (k) ≤ (i) := (nI_leI (a := k) (b := i) (by omega) (by omega)).mp c7
        exact x_vret hsz hx hb hr hlk hw (by rw [← hv, show i = k by omega]) d_Gr_sendOn_43
      · have h7 : ¬ (k) ≤ (i) := fun hz9 => c7 ((nI_leI (a := k) (b := i) (by omega) (by omega)).mpr hz9)
        refine lv_aload_n hx hb d_Gr_sendOn_10 rfl (lv_at hl 1 rfl) ?_
        refine x_get (ci := 1) (k := 5) hx hb ht in_Gr hown hw (by decide) o_Gr rfl 4 (by decide) (ht _ w_98) rfl d_Gr_sendOn_11 ?_
        refine lv_iload_n hx hb d_Gr_sendOn_14 rfl (lv_at hl 0 rfl) ?_
        refine x_iald (k := 17) hx hb hw (by decide) rfl (vin (N := 16) (by omega) rfl (by omega)) d_Gr_sendOn_15 ?_
        rw [nI_clamp (n := i) (by omega)]
        rw [show (w.1 17 i) = (u.1 17 i) from hw1 i (Nat.le_refl i)]
        refine lv_iload_n hx hb d_Gr_sendOn_16 rfl (lv_at hl 3 rfl) ?_
        refine lv_icmp_ne (tgt := 37) hx hb d_Gr_sendOn_17 (by decide) (fun c17 => ?_) (fun c17 => ?_)
        · refine lv_iinc (v := (nI (i + 1))) (lv' := [(3, .int (nI (i + 1))), (0, .ref (ad 5)), (1, .ref (ad (59 + t))), (2, .int (nI n))]) hx hb d_Gr_sendOn_37 hl (k := 0) rfl (nI_1 _) (by decide) rfl (fun ls hl => ?_)
          refine lv_goto (tgt := 2) hx hb d_Gr_sendOn_40 (by decide) ?_
          exact ih2 (i + 1) (w) (by omega) (by rw [← hv]; simp only [sendF]; first | (rw [if_pos c17]; done) | (rw [if_neg c17]; done)) (fun j hj => by first | (rw [sI_ne hj]; exact hw0 j hj) | exact hw0 j hj) (fun j hj => by first | (rw [sI_eq]; show upd _ _ _ _ = _; unfold upd; rw [if_neg (by omega)]; exact hw1 j (by omega)) | exact hw1 j (by omega)) (hw2) (by omega) _ _ hw ls (lv_sub hl [0, 1, 2, 3] rfl)
        · refine lv_aload_n hx hb d_Gr_sendOn_20 rfl (lv_at hl 1 rfl) ?_
          refine x_get (ci := 1) (k := 5) hx hb ht in_Gr hown hw (by decide) o_Gr rfl 4 (by decide) (ht _ w_98) rfl d_Gr_sendOn_21 ?_
          refine lv_iload_n hx hb d_Gr_sendOn_24 rfl (lv_at hl 0 rfl) ?_
          refine lv_aload_n hx hb d_Gr_sendOn_25 rfl (lv_at hl 2 rfl) ?_
          refine lv_iload_n hx hb d_Gr_sendOn_26 rfl (lv_at hl 3 rfl) ?_
          refine lv_aload_n hx hb d_Gr_sendOn_27 rfl (lv_at hl 1 rfl) ?_
          refine x_get (ci := 1) (k := 5) hx hb ht in_Gr hown hw (by decide) o_Gr rfl 0 (by decide) (ht _ w_94) rfl d_Gr_sendOn_28 ?_
          refine lv_iload_n hx hb d_Gr_sendOn_31 rfl (lv_at hl 0 rfl) ?_
          refine x_aald (k := 14) (b := 38) (n := 16) (t0 := 3) hx hb hw (by decide) (fun _ => rfl) rfl rfl (vp_in_nI (by omega) (by decide)) d_Gr_sendOn_32 ?_
          rw [nI_clamp (n := i) (by omega)]
          refine x_ci (x_runV (na := 2) (k := 59 + t) (As := [.int (nI n), .ref (ad (38 + i))]) (rest := [.int (nI i), .ref (ad 17)]) (ci := 5) ⟨hx, hb, hml, hown, ht⟩ (m_Tr_partFor (u := w) t n (38 + i) fe ht4 (by omega) (by omega) (xk_gf i (by omega)).1 (xk_gf i (by omega)).2 hfe5 (by rw [hw0 _ (by omega)]; exact hfe) _) w_323 w_324 w_325 w_6 w_326 (by decide +kernel) ⟨rfl, rfl, by decide, by decide⟩ hw (by omega) (o_Tr ht4) rfl rfl hl.1 rfl (Nat.le_of_ble_eq_true rfl) d_Gr_sendOn_33 ⟨Nat.zero_le _, Nat.zero_le _⟩) hw hA (fun v33 u33 H locs hp hw => ?_)
          obtain ⟨hv9, hu⟩ := hp
          subst hv9
          have hu := hu.symm
          subst hu
          refine x_iast (k := 17) hx hb hw (by decide) rfl (vin (N := 16) (by omega) rfl (by omega)) d_Gr_sendOn_36 (fun H locs hw => ?_)
          rw [nI_clamp (n := i) (by omega)] at hw
          rw [show (sI w 17 i (nI (stepN (w.1 (67 + t)) (w.1 (38 + i)) n fe))) = (sI w 17 i (nI (stepN (u.1 (67 + t)) (u.1 (38 + i)) n fe))) from by rw [hw0 (67 + t) (by omega), hw0 (38 + i) (by omega)]] at hw
          refine lv_iinc (v := (nI (i + 1))) (lv' := [(3, .int (nI (i + 1))), (0, .ref (ad 5)), (1, .ref (ad (59 + t))), (2, .int (nI n))]) hx hb d_Gr_sendOn_37 hl (k := 0) rfl (nI_1 _) (by decide) rfl (fun ls hl => ?_)
          refine lv_goto (tgt := 2) hx hb d_Gr_sendOn_40 (by decide) ?_
          exact ih2 (i + 1) ((sI w 17 i (nI (stepN (u.1 (67 + t)) (u.1 (38 + i)) n fe)))) (by omega) (by rw [← hv]; simp only [sendF]; first | (rw [if_pos c17]; done) | (rw [if_neg c17]; done)) (fun j hj => by first | (rw [sI_ne hj]; exact hw0 j hj) | exact hw0 j hj) (fun j hj => by first | (rw [sI_eq]; show upd _ _ _ _ = _; unfold upd; rw [if_neg (by omega)]; exact hw1 j (by omega)) | exact hw1 j (by omega)) (hw2) (by omega) _ _ hw ls (lv_sub hl [0, 1, 2, 3] rfl)
  exact L2 ((k - 0) + 1) (0) (u) (by omega) (rfl) (fun _ _ => rfl) (fun _ _ => rfl) (rfl) (by omega) _ _ hw ls (lv_sub hl [0, 1, 2, 3] rfl))
