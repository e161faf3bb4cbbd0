def shO (f n : Nat) : Nat → St → St × Nat
  | 0, w => (w, 0)
  | i + 1, w => if w.1 (38 + (w.1 (54 + f) i).toNatClampNeg) f ≤ w.1 (38 + n) f then (w, i + 1) else shO f n i (sI w (54 + f) (i + 1) (w.1 (54 + f) i))
def insO (u : St) (f n k : Nat) : St := sI (shO f n k u).1 (54 + f) (shO f n k u).2 (nI n)
theorem shO_ne {f n c : Nat} (h : c ≠ 54 + f) : ∀ (i : Nat) (w : St), (shO f n i w).1.1 c = w.1 c := by
  intro i
  induction i with
  | zero => intro w; rfl
  | succ i ih =>
    intro w
    simp only [shO]
    split
    · rfl
    · rw [ih, sI_ne h]
theorem shO_2 {f n : Nat} : ∀ (i : Nat) (w : St), (shO f n i w).1.2 = w.2 := by
  intro i
  induction i with
  | zero => intro w; rfl
  | succ i ih =>
    intro w
    simp only [shO]
    split
    · rfl
    · rw [ih]; rfl
theorem insO_ne {u : St} {f n k c : Nat} (h : c ≠ 54 + f) : (insO u f n k).1 c = u.1 c := by
  unfold insO
  rw [sI_ne h, shO_ne h]
theorem insO_2 {u : St} {f n k : Nat} : (insO u f n k).2 = u.2 := shO_2 k u
def addF (u : St) (k : Nat) : Nat → St
  | 0 => u
  | f + 1 => insO (sI (addF u k f) (38 + k) f (u.1 8 f)) f k k
def addS (u : St) (x : Int32) (k : Nat) : St := if k < 16 then sF (sL (addF u k 5) 15 k (65536 * x.toInt64)) 3 (nI (k + 1)) else u
set_option maxHeartbeats 4000000 in
set_option maxRecDepth 100000 in
theorem m_Gr_insertInOrder {l : Launch} {D : va_G} {g : Ids} {ad : Nat → Nat} {u : St} (f : Nat) (n : Nat) (k : Nat) (hf5 : f < 5) (hn16 : n < 16) (hk16 : k < 16) (hns : u.2.2.1 3 = nI k) (hord : ∀ i, i < k → ∃ o : Nat, o < 16 ∧ u.1 (54 + f) i = nI o) : XMv l D g ad y_Gr_insertInOrder b_Gr_insertInOrder 5 (none) (rmN 0 0) [.ref (ad 5), .int (nI f), .int (nI n)] u (fun w => w = insO u f n k) := fun sz => x_met (by decide) (Nat.le_of_ble_eq_true rfl) (fun p e s m below meth c hsz hx hb hr hml hown ht hlk hw ls hl => by
  have hA : ∀ q, s.heap.size ≤ q → AX ad sz q := fun q h => Or.inr (hsz ▸ h)
  have hl : lv_has ls 5 [(0, .ref (ad 5)), (1, .int (nI f)), (2, .int (nI n))] := hl
  refine lv_aload_n hx hb d_Gr_insertInOrder_0 rfl (lv_at hl 0 rfl) ?_
  refine x_get (ci := 1) (k := 5) hx hb ht in_Gr hown hw (by decide) o_Gr rfl 2 (by decide) (ht _ w_96) rfl d_Gr_insertInOrder_1 ?_
  refine lv_iload_n hx hb d_Gr_insertInOrder_4 rfl (lv_at hl 1 rfl) ?_
  refine x_aald (k := 16) (b := 54) (n := 5) (t0 := 3) hx hb hw (by decide) (fun _ => rfl) rfl rfl (vp_in_nI (by omega) (by decide)) d_Gr_insertInOrder_5 ?_
  rw [nI_clamp (n := f) (by omega)]
  refine lv_astore_n (lv' := [(3, .ref (ad (54 + f))), (0, .ref (ad 5)), (1, .int (nI f)), (2, .int (nI n))]) hx hb d_Gr_insertInOrder_6 rfl hl (by decide) rfl (fun ls hl => ?_)
  refine lv_aload_n hx hb d_Gr_insertInOrder_7 rfl (lv_at hl 1 rfl) ?_
  refine x_get (ci := 1) (k := 5) hx hb ht in_Gr hown hw (by decide) o_Gr rfl 3 (by decide) (ht _ w_97) rfl d_Gr_insertInOrder_8 ?_
  rw [show (u.2.2.1 3) = (nI k) from hns]
  refine lv_istore (lv' := [(4, .int (nI k)), (3, .ref (ad (54 + f))), (0, .ref (ad 5)), (1, .int (nI f)), (2, .int (nI n))]) hx hb d_Gr_insertInOrder_11 hl (by decide) rfl (fun ls hl => ?_)
  have L13 : ∀ (n13 : Nat) (i : Nat) (w : St), i ≤ k → shO f n i w = shO f n k u → (∀ j, j < i → ∃ o : Nat, o < 16 ∧ w.1 (54 + f) j = nI o) → i < n13 → ∀ (H : Heap) (locs : List Loc), XH D g ad (AX ad sz) s s.heap H locs w → ∀ ls : Array Slot, lv_has ls 5 [(4, .int (nI i)), (3, .ref (ad (54 + f))), (0, .ref (ad 5)), (1, .int (nI f)), (2, .int (nI n))] → W p l e (rmN 0 0) s m ([.ref (ad 5), .int (nI f), .int (nI n)] : List Value).toArray below meth c H locs 0 0 (MQ below (va_Qv (fun w => w = insO u f n k) (XB D g ad sz) (AX ad sz)) ([.ref (ad 5), .int (nI f), .int (nI n)] : List Value).toArray s 0 0 (AX ad sz)) (F0 m 13 ls []) := by
    intro n13
    induction n13 with
    | zero => intro i w hi hv hOk hz; exact absurd hz (by omega)
    | succ n13 ih13 =>
      intro i w hi hv hOk hnL13 H locs hw ls hl
      refine lv_iload hx hb d_Gr_insertInOrder_13 (lv_at hl 0 rfl) ?_
      refine lv_if_le (tgt := 58) hx hb d_Gr_insertInOrder_15 (by decide) (fun c15 => ?_) (fun c15 => ?_)
      · have h15 : (i) ≤ (0) := (nI_leI (a := i) (b := 0) (by omega) (by omega)).mp c15
        refine lv_aload_n hx hb d_Gr_insertInOrder_58 rfl (lv_at hl 1 rfl) ?_
        refine lv_iload hx hb d_Gr_insertInOrder_59 (lv_at hl 0 rfl) ?_
        refine lv_iload_n hx hb d_Gr_insertInOrder_61 rfl (lv_at hl 4 rfl) ?_
        refine x_iast (k := 54 + f) hx hb hw (by omega) (xk_go _ hf5).1 (vin (N := 16) (by omega) (xk_go _ hf5).2 (by omega)) d_Gr_insertInOrder_62 (fun H locs hw => ?_)
        rw [nI_clamp (n := i) (by omega)] at hw
        exact x_vret hsz hx hb hr hlk hw (by unfold insO; rw [← hv]; first | ((obtain rfl : i = 0 := (by omega)); rfl) | (rw [show shO f n (j + 1) w = (w, j + 1) from if_pos (by rw [hoo, nI_clamp (by omega)]; exact c39)])) d_Gr_insertInOrder_63
      · have h15 : ¬ (i) ≤ (0) := fun hz9 => c15 ((nI_leI (a := i) (b := 0) (by omega) (by omega)).mpr hz9)
        obtain ⟨j, rfl⟩ : ∃ j, i = j + 1 := ⟨i - 1, by omega⟩
        obtain ⟨o, ho, hoo⟩ := hOk j (by omega)
        refine lv_aload_n hx hb d_Gr_insertInOrder_18 rfl (lv_at hl 2 rfl) ?_
        refine x_get (ci := 1) (k := 5) hx hb ht in_Gr hown hw (by decide) o_Gr rfl 0 (by decide) (ht _ w_94) rfl d_Gr_insertInOrder_19 ?_
        refine lv_aload_n hx hb d_Gr_insertInOrder_22 rfl (lv_at hl 1 rfl) ?_
        refine lv_iload hx hb d_Gr_insertInOrder_23 (lv_at hl 0 rfl) ?_
        refine lv_iconst (v := 1) hx hb d_Gr_insertInOrder_25 (by decide) ?_
        refine lv_isub hx hb d_Gr_insertInOrder_26 ?_
        rw [show ((nI (j + 1)) - 1) = (nI j) from nI_pred _]
        refine x_iald (k := 54 + f) hx hb hw (by omega) (xk_go _ hf5).1 (vin (N := 16) (by omega) (xk_go _ hf5).2 (by omega)) d_Gr_insertInOrder_27 ?_
        rw [nI_clamp (n := j) (by omega)]
        rw [show (w.1 (54 + f) j) = (nI o) from hoo]
        refine x_aald (k := 14) (b := 38) (n := 16) (t0 := 3) hx hb hw (by decide) (fun _ => rfl) rfl rfl (vp_in_nI (by omega) (by decide)) d_Gr_insertInOrder_28 ?_
        rw [nI_clamp (n := o) (by omega)]
        refine lv_iload_n hx hb d_Gr_insertInOrder_29 rfl (lv_at hl 3 rfl) ?_
        refine x_iald (k := 38 + o) hx hb hw (by omega) (xk_gf _ ho).1 (vin (N := 5) (by omega) (xk_gf _ ho).2 (by omega)) d_Gr_insertInOrder_30 ?_
        rw [nI_clamp (n := f) (by omega)]
        refine lv_aload_n hx hb d_Gr_insertInOrder_31 rfl (lv_at hl 2 rfl) ?_
        refine x_get (ci := 1) (k := 5) hx hb ht in_Gr hown hw (by decide) o_Gr rfl 0 (by decide) (ht _ w_94) rfl d_Gr_insertInOrder_32 ?_
        refine lv_iload_n hx hb d_Gr_insertInOrder_35 rfl (lv_at hl 4 rfl) ?_
        refine x_aald (k := 14) (b := 38) (n := 16) (t0 := 3) hx hb hw (by decide) (fun _ => rfl) rfl rfl (vp_in_nI (by omega) (by decide)) d_Gr_insertInOrder_36 ?_
        rw [nI_clamp (n := n) (by omega)]
        refine lv_iload_n hx hb d_Gr_insertInOrder_37 rfl (lv_at hl 3 rfl) ?_
        refine x_iald (k := 38 + n) hx hb hw (by omega) (xk_gf _ hn16).1 (vin (N := 5) (by omega) (xk_gf _ hn16).2 (by omega)) d_Gr_insertInOrder_38 ?_
        rw [nI_clamp (n := f) (by omega)]
        refine lv_icmp_le (tgt := 58) hx hb d_Gr_insertInOrder_39 (by decide) (fun c39 => ?_) (fun c39 => ?_)
        · refine lv_aload_n hx hb d_Gr_insertInOrder_58 rfl (lv_at hl 1 rfl) ?_
          refine lv_iload hx hb d_Gr_insertInOrder_59 (lv_at hl 0 rfl) ?_
          refine lv_iload_n hx hb d_Gr_insertInOrder_61 rfl (lv_at hl 4 rfl) ?_
          refine x_iast (k := 54 + f) hx hb hw (by omega) (xk_go _ hf5).1 (vin (N := 16) (by omega) (xk_go _ hf5).2 (by omega)) d_Gr_insertInOrder_62 (fun H locs hw => ?_)
          rw [nI_clamp (n := j + 1) (by omega)] at hw
          exact x_vret hsz hx hb hr hlk hw (by unfold insO; rw [← hv]; first | ((obtain rfl : i = 0 := (by omega)); rfl) | (rw [show shO f n (j + 1) w = (w, j + 1) from if_pos (by rw [hoo, nI_clamp (by omega)]; exact c39)])) d_Gr_insertInOrder_63
        · refine lv_aload_n hx hb d_Gr_insertInOrder_42 rfl (lv_at hl 1 rfl) ?_
          refine lv_iload hx hb d_Gr_insertInOrder_43 (lv_at hl 0 rfl) ?_
          refine lv_aload_n hx hb d_Gr_insertInOrder_45 rfl (lv_at hl 1 rfl) ?_
          refine lv_iload hx hb d_Gr_insertInOrder_46 (lv_at hl 0 rfl) ?_
          refine lv_iconst (v := 1) hx hb d_Gr_insertInOrder_48 (by decide) ?_
          refine lv_isub hx hb d_Gr_insertInOrder_49 ?_
          rw [show ((nI (j + 1)) - 1) = (nI j) from nI_pred _]
          refine x_iald (k := 54 + f) hx hb hw (by omega) (xk_go _ hf5).1 (vin (N := 16) (by omega) (xk_go _ hf5).2 (by omega)) d_Gr_insertInOrder_50 ?_
          rw [nI_clamp (n := j) (by omega)]
          refine x_iast (k := 54 + f) hx hb hw (by omega) (xk_go _ hf5).1 (vin (N := 16) (by omega) (xk_go _ hf5).2 (by omega)) d_Gr_insertInOrder_51 (fun H locs hw => ?_)
          rw [nI_clamp (n := j + 1) (by omega)] at hw
          refine lv_iinc (v := (nI j)) (lv' := [(4, .int (nI j)), (3, .ref (ad (54 + f))), (0, .ref (ad 5)), (1, .int (nI f)), (2, .int (nI n))]) hx hb d_Gr_insertInOrder_52 hl (k := 0) rfl (pk_m1 _) (by decide) rfl (fun ls hl => ?_)
          refine lv_goto (tgt := 13) hx hb d_Gr_insertInOrder_55 (by decide) ?_
          exact ih13 (j) ((sI w (54 + f) (j + 1) (w.1 (54 + f) j))) (by omega) (by rw [← hv]; exact (show shO f n (j + 1) w = _ from if_neg (by rw [hoo, nI_clamp (by omega)]; exact c39)).symm) (fun j2 hj2 => by rw [sI_eq]; show ∃ o : Nat, o < 16 ∧ upd _ _ _ _ = _; unfold upd; rw [if_neg (by omega)]; exact hOk j2 (by omega)) (by omega) _ _ hw ls (lv_sub hl [0, 1, 2, 3, 4] rfl)
  exact L13 ((k) + 1) (k) (u) (by omega) (rfl) (hord) (by omega) _ _ hw ls (lv_sub hl [0, 1, 2, 3, 4] rfl))
set_option maxHeartbeats 4000000 in
set_option maxRecDepth 100000 in
theorem m_Gr_addSample {l : Launch} {D : va_G} {g : Ids} {ad : Nat → Nat} {u : St} (x : Int32) (k : Nat) (hk16 : k ≤ 16) (hns : u.2.2.1 3 = nI k) (hord : ∀ f, f < 5 → ∀ i, i < k → ∃ o : Nat, o < 16 ∧ u.1 (54 + f) i = nI o) : XMv l D g ad y_Gr_addSample b_Gr_addSample 4 (none) (rmN 1 24) [.ref (ad 5), .ref (ad 8), .int x] u (fun w => w = addS u x k) := fun sz => x_met (by decide) (Nat.le_of_ble_eq_true rfl) (fun p e s m below meth c hsz hx hb hr hml hown ht hlk hw ls hl => by
  have hA : ∀ q, s.heap.size ≤ q → AX ad sz q := fun q h => Or.inr (hsz ▸ h)
  have hl : lv_has ls 4 [(0, .ref (ad 5)), (1, .ref (ad 8)), (2, .int x)] := hl
  refine lv_aload_n hx hb d_Gr_addSample_0 rfl (lv_at hl 0 rfl) ?_
  refine x_get (ci := 1) (k := 5) hx hb ht in_Gr hown hw (by decide) o_Gr rfl 3 (by decide) (ht _ w_97) rfl d_Gr_addSample_1 ?_
  rw [show (u.2.2.1 3) = (nI k) from hns]
  refine lv_bipush (v := 16) hx hb d_Gr_addSample_4 (by decide) ?_
  refine lv_icmp_lt (tgt := 10) hx hb d_Gr_addSample_6 (by decide) (fun c6 => ?_) (fun c6 => ?_)
  · have h6 : (k) < (16) := (nI_ltI (a := k) (b := 16) (by omega) (by omega)).mp c6
    have hk15 : k < 16 := h6
    refine lv_iconst (v := 0) hx hb d_Gr_addSample_10 (by decide) ?_
    refine lv_istore_n (lv' := [(3, .int 0), (0, .ref (ad 5)), (1, .ref (ad 8)), (2, .int x)]) hx hb d_Gr_addSample_11 rfl hl (by decide) rfl (fun ls hl => ?_)
    have L12 : ∀ (n12 : Nat) (f : Nat) (w : St), f ≤ 5 → addF u k f = w → w.1 8 = u.1 8 → w.2 = u.2 → (∀ f2, f ≤ f2 → f2 < 5 → ∀ i, i < k → ∃ o : Nat, o < 16 ∧ w.1 (54 + f2) i = nI o) → 5 - f < n12 → ∀ (H : Heap) (locs : List Loc), XH D g ad (AX ad sz) s s.heap H locs w → ∀ ls : Array Slot, lv_has ls 4 [(3, .int (nI f)), (0, .ref (ad 5)), (1, .ref (ad 8)), (2, .int x)] → W p l e (rmN 1 24) s m ([.ref (ad 5), .ref (ad 8), .int x] : List Value).toArray below meth c H locs 0 0 (MQ below (va_Qv (fun w => w = addS u x k) (XB D g ad sz) (AX ad sz)) ([.ref (ad 5), .ref (ad 8), .int x] : List Value).toArray s 0 0 (AX ad sz)) (F0 m 12 ls []) := by
      intro n12
      induction n12 with
      | zero => intro f w h1 hv hw8 hw2 hwo hz; exact absurd hz (by omega)
      | succ n12 ih12 =>
        intro f w h1 hv hw8 hw2 hwo hnL12 H locs hw ls hl
        refine lv_iload_n hx hb d_Gr_addSample_12 rfl (lv_at hl 0 rfl) ?_
        refine lv_iconst (v := 5) hx hb d_Gr_addSample_13 (by decide) ?_
        refine lv_icmp_ge (tgt := 46) hx hb d_Gr_addSample_14 (by decide) (fun c14 => ?_) (fun c14 => ?_)
        · have h14 : (5) ≤ (f) := (nI_leI (a := 5) (b := f) (by omega) (by omega)).mp c14
          refine lv_aload_n hx hb d_Gr_addSample_46 rfl (lv_at hl 1 rfl) ?_
          refine x_get (ci := 1) (k := 5) hx hb ht in_Gr hown hw (by decide) o_Gr rfl 1 (by decide) (ht _ w_95) rfl d_Gr_addSample_47 ?_
          refine lv_aload_n hx hb d_Gr_addSample_50 rfl (lv_at hl 1 rfl) ?_
          refine x_get (ci := 1) (k := 5) hx hb ht in_Gr hown hw (by decide) o_Gr rfl 3 (by decide) (ht _ w_97) rfl d_Gr_addSample_51 ?_
          rw [show (w.2.2.1 3) = (nI k) from by rw [hw2]; exact hns]
          refine lv_ldc2 (v := 65536) hx hb hown (ht _ w_271) d_Gr_addSample_54 ?_
          refine lv_iload_n hx hb d_Gr_addSample_57 rfl (lv_at hl 3 rfl) ?_
          refine lv_i2l (v := (x : Int32).toInt64) hx hb d_Gr_addSample_58 rfl ?_
          refine lv_lmul hx hb d_Gr_addSample_59 ?_
          refine x_last (k := 15) hx hb hw (by decide) rfl (vin (N := 16) (by omega) rfl (by omega)) d_Gr_addSample_60 (fun H locs hw => ?_)
          rw [nI_clamp (n := k) (by omega)] at hw
          refine lv_aload_n hx hb d_Gr_addSample_61 rfl (lv_at hl 1 rfl) ?_
          refine lv_dup hx hb d_Gr_addSample_62 rfl ?_
          refine x_get (ci := 1) (k := 5) hx hb ht in_Gr hown hw (by decide) o_Gr rfl 3 (by decide) (ht _ w_97) rfl d_Gr_addSample_63 ?_
          rw [show ((sL w 15 k (65536 * (x : Int32).toInt64)).2.2.1 3) = (nI k) from by show w.2.2.1 3 = nI k; rw [hw2]; exact hns]
          refine lv_iconst (v := 1) hx hb d_Gr_addSample_66 (by decide) ?_
          refine lv_iadd hx hb d_Gr_addSample_67 ?_
          rw [show ((nI k) + 1) = (nI (k + 1)) from nI_add _ _]
          refine x_puti (ci := 1) (k := 5) hx hb ht in_Gr t_Gr t_Gr_ok n_Gr hown hw (by decide) o_Gr rfl 3 (3) (by decide) (ht _ w_97) rfl (by decide +kernel) (Nat.le_of_ble_eq_true rfl) rfl rfl d_Gr_addSample_68 (fun H locs hw => ?_)
          exact x_vret hsz hx hb hr hlk hw (by unfold addS; rw [if_pos hk15, ← hv, show f = 5 by omega]) d_Gr_addSample_71
        · have h14 : ¬ (5) ≤ (f) := fun hz9 => c14 ((nI_leI (a := 5) (b := f) (by omega) (by omega)).mpr hz9)
          refine lv_aload_n hx hb d_Gr_addSample_17 rfl (lv_at hl 1 rfl) ?_
          refine x_get (ci := 1) (k := 5) hx hb ht in_Gr hown hw (by decide) o_Gr rfl 0 (by decide) (ht _ w_94) rfl d_Gr_addSample_18 ?_
          refine lv_aload_n hx hb d_Gr_addSample_21 rfl (lv_at hl 1 rfl) ?_
          refine x_get (ci := 1) (k := 5) hx hb ht in_Gr hown hw (by decide) o_Gr rfl 3 (by decide) (ht _ w_97) rfl d_Gr_addSample_22 ?_
          rw [show (w.2.2.1 3) = (nI k) from by rw [hw2]; exact hns]
          refine x_aald (k := 14) (b := 38) (n := 16) (t0 := 3) hx hb hw (by decide) (fun _ => rfl) rfl rfl (vp_in_nI (by omega) (by decide)) d_Gr_addSample_25 ?_
          rw [nI_clamp (n := k) (by omega)]
          refine lv_iload_n hx hb d_Gr_addSample_26 rfl (lv_at hl 0 rfl) ?_
          refine lv_aload_n hx hb d_Gr_addSample_27 rfl (lv_at hl 2 rfl) ?_
          refine lv_iload_n hx hb d_Gr_addSample_28 rfl (lv_at hl 0 rfl) ?_
          refine x_iald (k := 8) hx hb hw (by decide) rfl (vin (N := 5) (by omega) rfl (by omega)) d_Gr_addSample_29 ?_
          rw [nI_clamp (n := f) (by omega)]
          rw [show (w.1 8 f) = (u.1 8 f) from by rw [hw8]]
          refine x_iast (k := 38 + k) hx hb hw (by omega) (xk_gf _ hk15).1 (vin (N := 5) (by omega) (xk_gf _ hk15).2 (by omega)) d_Gr_addSample_30 (fun H locs hw => ?_)
          rw [nI_clamp (n := f) (by omega)] at hw
          refine lv_aload_n hx hb d_Gr_addSample_31 rfl (lv_at hl 1 rfl) ?_
          refine lv_iload_n hx hb d_Gr_addSample_32 rfl (lv_at hl 0 rfl) ?_
          refine lv_aload_n hx hb d_Gr_addSample_33 rfl (lv_at hl 1 rfl) ?_
          refine x_get (ci := 1) (k := 5) hx hb ht in_Gr hown hw (by decide) o_Gr rfl 3 (by decide) (ht _ w_97) rfl d_Gr_addSample_34 ?_
          rw [show ((sI w (38 + k) f (u.1 8 f)).2.2.1 3) = (nI k) from by show w.2.2.1 3 = nI k; rw [hw2]; exact hns]
          refine x_cv (x_runV (na := 2) (k := 5) (As := [.int (nI f), .int (nI k)]) (rest := []) (ci := 1) ⟨hx, hb, hml, hown, ht⟩ (m_Gr_insertInOrder (u := (sI w (38 + k) f (u.1 8 f))) f k k (by omega) hk15 hk15 (by show w.2.2.1 3 = nI k; rw [hw2]; exact hns) (fun i hi => by rw [sI_ne (by omega)]; exact hwo f (Nat.le_refl f) (by omega) i hi) _) w_267 w_269 s_3 w_7 w_270 (by decide +kernel) ⟨rfl, rfl, by decide, by decide⟩ hw (by decide) o_Gr rfl rfl hl.1 rfl (Nat.le_of_ble_eq_true rfl) d_Gr_addSample_37 ⟨Nat.zero_le _, Nat.zero_le _⟩) hw hA (fun u37 H locs hp hw => ?_)
          have hu := hp.symm
          subst hu
          refine lv_iinc (v := (nI (f + 1))) (lv' := [(3, .int (nI (f + 1))), (0, .ref (ad 5)), (1, .ref (ad 8)), (2, .int x)]) hx hb d_Gr_addSample_40 hl (k := 0) rfl (nI_1 _) (by decide) rfl (fun ls hl => ?_)
          refine lv_goto (tgt := 12) hx hb d_Gr_addSample_43 (by decide) ?_
          exact ih12 (f + 1) ((insO (sI w (38 + k) f (u.1 8 f)) f k k)) (by omega) (by rw [← hv]; rfl) (by rw [insO_ne (by omega), sI_ne (by omega)]; exact hw8) (by rw [insO_2]; exact hw2) (fun f2 h2 h5 i hi => by rw [insO_ne (by omega), sI_ne (by omega)]; exact hwo f2 (by omega) h5 i hi) (by omega) _ _ hw ls (lv_sub hl [0, 1, 2, 3] rfl)
    exact L12 ((5 - 0) + 1) (0) (u) (by omega) (rfl) (rfl) (rfl) (fun f2 _ h => hord f2 h) (by omega) _ _ hw ls (lv_sub hl [0, 1, 2, 3] rfl)
  · have h6 : ¬ (k) < (16) := fun hz9 => c6 ((nI_ltI (a := k) (b := 16) (by omega) (by omega)).mpr hz9)
    exact x_vret hsz hx hb hr hlk hw (by unfold addS; rw [if_neg h6]) d_Gr_addSample_9)
