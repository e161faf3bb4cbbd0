def nsF (r : Nat → Int64) (nd : Nat → Int32) (x : Int32) : Nat → Int64
  | 0 => 0
  | t + 1 => if nd t = x then nsF r nd x t + r t else nsF r nd x t
def ncF (nd : Nat → Int32) (x : Int32) : Nat → Int32
  | 0 => 0
  | t + 1 => if nd t = x then ncF nd x t + 1 else ncF nd x t
theorem sF_sF (u : St) (k : Nat) (x y : Int32) : sF (sF u k x) k y = sF u k y := by
  unfold sF
  have : upd (upd u.2.2.1 k x) k y = upd u.2.2.1 k y := by
    funext j
    unfold upd
    by_cases h : j = k <;> simp [h]
  simp only [this]
theorem sG_sF (u : St) (a a2 : Int64) (b : Int32) : sG (sF (sG u 0 a) 5 b) 0 a2 = sF (sG u 0 a2) 5 b := by
  unfold sF sG
  have : vp_updL (vp_updL u.2.2.2 0 a) 0 a2 = vp_updL u.2.2.2 0 a2 := by
    funext j
    unfold vp_updL
    by_cases h : j = 0 <;> simp [h]
  simp only [this]
def wsF (u : St) (f x : Int32) (y : Int64) (a : Int32) : St := if a < u.2.2.1 4 then u else if u.2.2.1 4 ≤ u.2.2.1 5 - a then (if lg_cmp (worthI y a + worthI (u.2.2.2 0 - y) (u.2.2.1 5 - a)) (u.2.2.2 1) ≤ 0 then u else sF (sF (sG u 1 (worthI y a + worthI (u.2.2.2 0 - y) (u.2.2.1 5 - a))) 6 f) 7 x) else u
theorem wsF_1 {u : St} {f x : Int32} {y : Int64} {a : Int32} : (wsF u f x y a).1 = u.1 := by
  unfold wsF
  split; rfl; split; (split <;> rfl); rfl
theorem wsF_2 {u : St} {f x : Int32} {y : Int64} {a : Int32} : (wsF u f x y a).2.1 = u.2.1 := by
  unfold wsF
  split; rfl; split; (split <;> rfl); rfl
theorem wsF_3 {u : St} {f x : Int32} {y : Int64} {a : Int32} : (wsF u f x y a).2.2.1 3 = u.2.2.1 3 := by
  unfold wsF
  split; rfl; split; (split <;> rfl); rfl
def wtF (u : St) (x : Int32) (f : Nat) : Nat → Int64 × Int32 × Int32 × St
  | 0 => (0, 0, 0, u)
  | t + 1 => if u.1 17 (u.1 (54 + f) t).toNatClampNeg = x then
      (if u.1 (38 + (u.1 (54 + f) t).toNatClampNeg) f ≤ (wtF u x f t).2.2.1 then ((wtF u x f t).1 + u.2.1 15 (u.1 (54 + f) t).toNatClampNeg, (wtF u x f t).2.1 + 1, (wtF u x f t).2.2.1, (wtF u x f t).2.2.2)
       else ((wtF u x f t).1 + u.2.1 15 (u.1 (54 + f) t).toNatClampNeg, (wtF u x f t).2.1 + 1, u.1 (38 + (u.1 (54 + f) t).toNatClampNeg) f, wsF (wtF u x f t).2.2.2 (nI f) (wtF u x f t).2.2.1 (wtF u x f t).1 (wtF u x f t).2.1)) else wtF u x f t
set_option maxHeartbeats 4000000 in
set_option maxRecDepth 100000 in
theorem m_Gr_clear {l : Launch} {D : va_G} {g : Ids} {ad : Nat → Nat} {u : St} : XMv l D g ad y_Gr_clear b_Gr_clear 1 (none) (rmN 0 0) [.ref (ad 5)] u (fun w => w = sF u 3 0) := fun sz => x_met (by decide) (Nat.le_of_ble_eq_true rfl) (fun p e s m below meth c hsz hx hb hr hml hown ht hlk hw ls hl => by
  have hA : ∀ q, s.heap.size ≤ q → AX ad sz q := fun q h => Or.inr (hsz ▸ h)
  have hl : lv_has ls 1 [(0, .ref (ad 5))] := hl
  refine lv_aload_n hx hb d_Gr_clear_0 rfl (lv_at hl 0 rfl) ?_
  refine lv_iconst (v := 0) hx hb d_Gr_clear_1 (by decide) ?_
  refine x_puti (ci := 1) (k := 5) hx hb ht in_Gr t_Gr t_Gr_ok n_Gr hown hw (by decide) o_Gr rfl 3 (3) (by decide) (ht _ w_97) rfl (by decide +kernel) (Nat.le_of_ble_eq_true rfl) rfl rfl d_Gr_clear_2 (fun H locs hw => ?_)
  exact x_vret hsz hx hb hr hlk hw rfl d_Gr_clear_5)
set_option maxHeartbeats 4000000 in
set_option maxRecDepth 100000 in
theorem m_Gr_hasSamples {l : Launch} {D : va_G} {g : Ids} {ad : Nat → Nat} {u : St} : XMi l D g ad y_Gr_hasSamples b_Gr_hasSamples 1 ((some .boolean)) (rmN 0 0) [.ref (ad 5)] u (fun v w => v = (if u.2.2.1 3 ≤ 0 then 0 else 1) ∧ w = u) := fun sz => x_met (by decide) (Nat.le_of_ble_eq_true rfl) (fun p e s m below meth c hsz hx hb hr hml hown ht hlk hw ls hl => by
  have hA : ∀ q, s.heap.size ≤ q → AX ad sz q := fun q h => Or.inr (hsz ▸ h)
  have hl : lv_has ls 1 [(0, .ref (ad 5))] := hl
  refine lv_aload_n hx hb d_Gr_hasSamples_0 rfl (lv_at hl 0 rfl) ?_
  refine x_get (ci := 1) (k := 5) hx hb ht in_Gr hown hw (by decide) o_Gr rfl 3 (by decide) (ht _ w_97) rfl d_Gr_hasSamples_1 ?_
  refine lv_if_le (tgt := 11) hx hb d_Gr_hasSamples_4 (by decide) (fun c4 => ?_) (fun c4 => ?_)
  · refine lv_iconst (v := 0) hx hb d_Gr_hasSamples_11 (by decide) ?_
    exact x_zret hsz hx hb hr hlk hw rfl ⟨by simp [c4], rfl⟩ d_Gr_hasSamples_12
  · refine lv_iconst (v := 1) hx hb d_Gr_hasSamples_7 (by decide) ?_
    refine lv_goto (tgt := 12) hx hb d_Gr_hasSamples_8 (by decide) ?_
    exact x_zret hsz hx hb hr hlk hw rfl ⟨by simp [c4], rfl⟩ d_Gr_hasSamples_12)
set_option maxHeartbeats 4000000 in
set_option maxRecDepth 100000 in
theorem m_Gr_sumUp {l : Launch} {D : va_G} {g : Ids} {ad : Nat → Nat} {u : St} (x : Int32) (k : Nat) (hk16 : k ≤ 16) (hns : u.2.2.1 3 = nI k) : XMv l D g ad y_Gr_sumUp b_Gr_sumUp 3 (none) (rmN 0 0) [.ref (ad 5), .int x] u (fun w => w = sF (sG u 0 (nsF (u.2.1 15) (u.1 17) x k)) 5 (ncF (u.1 17) x k)) := fun sz => x_met (by decide) (Nat.le_of_ble_eq_true rfl) (fun p e s m below meth c hsz hx hb hr hml hown ht hlk hw ls hl => by
  have hA : ∀ q, s.heap.size ≤ q → AX ad sz q := fun q h => Or.inr (hsz ▸ h)
  have hl : lv_has ls 3 [(0, .ref (ad 5)), (1, .int x)] := hl
  refine lv_aload_n hx hb d_Gr_sumUp_0 rfl (lv_at hl 0 rfl) ?_
  refine lv_lconst (v := 0) hx hb d_Gr_sumUp_1 (by decide) ?_
  refine x_putl (ci := 1) (k := 5) hx hb ht in_Gr t_Gr t_Gr_ok n_Gr hown hw (by decide) o_Gr rfl 6 (0) (by decide) (ht _ w_100) rfl (by decide +kernel) (Nat.le_of_ble_eq_true rfl) rfl rfl d_Gr_sumUp_2 (fun H locs hw => ?_)
  refine lv_aload_n hx hb d_Gr_sumUp_5 rfl (lv_at hl 0 rfl) ?_
  refine lv_iconst (v := 0) hx hb d_Gr_sumUp_6 (by decide) ?_
  refine x_puti (ci := 1) (k := 5) hx hb ht in_Gr t_Gr t_Gr_ok n_Gr hown hw (by decide) o_Gr rfl 7 (5) (by decide) (ht _ w_101) rfl (by decide +kernel) (Nat.le_of_ble_eq_true rfl) rfl rfl d_Gr_sumUp_7 (fun H locs hw => ?_)
  refine lv_iconst (v := 0) hx hb d_Gr_sumUp_10 (by decide) ?_
  refine lv_istore_n (lv' := [(2, .int 0), (0, .ref (ad 5)), (1, .int x)]) hx hb d_Gr_sumUp_11 rfl hl (by decide) rfl (fun ls hl => ?_)
  have L12 : ∀ (n12 : Nat) (t : Nat), t ≤ k → k - t < n12 → ∀ (H : Heap) (locs : List Loc), XH D g ad (AX ad sz) s s.heap H locs (sF (sG u 0 (nsF (u.2.1 15) (u.1 17) x t)) 5 (ncF (u.1 17) x t)) → ∀ ls : Array Slot, lv_has ls 3 [(2, .int (nI t)), (0, .ref (ad 5)), (1, .int x)] → W p l e (rmN 0 0) s m ([.ref (ad 5), .int x] : List Value).toArray below meth c H locs 0 0 (MQ below (va_Qv (fun w => w = sF (sG u 0 (nsF (u.2.1 15) (u.1 17) x k)) 5 (ncF (u.1 17) x k)) (XB D g ad sz) (AX ad sz)) ([.ref (ad 5), .int x] : List Value).toArray s 0 0 (AX ad sz)) (F0 m 12 ls []) := by
    intro n12
    induction n12 with
    | zero => intro t h1 hz; exact absurd hz (by omega)
    | succ n12 ih12 =>
      intro t h1 hnL12 H locs hw ls hl
      refine lv_iload_n hx hb d_Gr_sumUp_12 rfl (lv_at hl 0 rfl) ?_
      refine lv_aload_n hx hb d_Gr_sumUp_13 rfl (lv_at hl 1 rfl) ?_
      refine x_get (ci := 1) (k := 5) hx hb ht in_Gr hown hw (by decide) o_Gr rfl 3 (by decide) (ht _ w_97) rfl d_Gr_sumUp_14 ?_
      rw [show ((sF (sG u 0 (nsF (u.2.1 15) (u.1 17) x t)) 5 (ncF (u.1 17) x t)).2.2.1 3) = (nI k) from hns]
      refine lv_icmp_ge (tgt := 61) hx hb d_Gr_sumUp_17 (by decide) (fun c17 => ?_) (fun c17 => ?_)
      · have h17 : (k) ≤ (t) := (nI_leI (a := k) (b := t) (by omega) (by omega)).mp c17
        exact x_vret hsz hx hb hr hlk hw (by rw [show t = k by omega]) d_Gr_sumUp_61
      · have h17 : ¬ (k) ≤ (t) := fun hz9 => c17 ((nI_leI (a := k) (b := t) (by omega) (by omega)).mpr hz9)
        refine lv_aload_n hx hb d_Gr_sumUp_20 rfl (lv_at hl 1 rfl) ?_
        refine x_get (ci := 1) (k := 5) hx hb ht in_Gr hown hw (by decide) o_Gr rfl 4 (by decide) (ht _ w_98) rfl d_Gr_sumUp_21 ?_
        refine lv_iload_n hx hb d_Gr_sumUp_24 rfl (lv_at hl 0 rfl) ?_
        refine x_iald (k := 17) hx hb hw (by decide) rfl (vin (N := 16) (by omega) rfl (by omega)) d_Gr_sumUp_25 ?_
        rw [nI_clamp (n := t) (by omega)]
        rw [show ((sF (sG u 0 (nsF (u.2.1 15) (u.1 17) x t)) 5 (ncF (u.1 17) x t)).1 17 t) = (u.1 17 t) from rfl]
        refine lv_iload_n hx hb d_Gr_sumUp_26 rfl (lv_at hl 2 rfl) ?_
        refine lv_icmp_ne (tgt := 55) hx hb d_Gr_sumUp_27 (by decide) (fun c27 => ?_) (fun c27 => ?_)
        · refine lv_iinc (v := (nI (t + 1))) (lv' := [(2, .int (nI (t + 1))), (0, .ref (ad 5)), (1, .int x)]) hx hb d_Gr_sumUp_55 hl (k := 0) rfl (nI_1 _) (by decide) rfl (fun ls hl => ?_)
          refine lv_goto (tgt := 12) hx hb d_Gr_sumUp_58 (by decide) ?_
          exact ih12 (t + 1) (by omega) (by omega) _ _ (by simp only [nsF, ncF]; first | (rw [if_pos c27, if_pos c27]; exact hw) | (rw [if_neg c27, if_neg c27]; exact hw)) ls (lv_sub hl [0, 1, 2] rfl)
        · refine lv_aload_n hx hb d_Gr_sumUp_30 rfl (lv_at hl 1 rfl) ?_
          refine lv_dup hx hb d_Gr_sumUp_31 rfl ?_
          refine x_get (ci := 1) (k := 5) hx hb ht in_Gr hown hw (by decide) o_Gr rfl 6 (by decide) (ht _ w_100) rfl d_Gr_sumUp_32 ?_
          rw [show ((sF (sG u 0 (nsF (u.2.1 15) (u.1 17) x t)) 5 (ncF (u.1 17) x t)).2.2.2 0) = (nsF (u.2.1 15) (u.1 17) x t) from rfl]
          refine lv_aload_n hx hb d_Gr_sumUp_35 rfl (lv_at hl 1 rfl) ?_
          refine x_get (ci := 1) (k := 5) hx hb ht in_Gr hown hw (by decide) o_Gr rfl 1 (by decide) (ht _ w_95) rfl d_Gr_sumUp_36 ?_
          refine lv_iload_n hx hb d_Gr_sumUp_39 rfl (lv_at hl 0 rfl) ?_
          refine x_lald (k := 15) hx hb hw (by decide) rfl (vin (N := 16) (by omega) rfl (by omega)) d_Gr_sumUp_40 ?_
          rw [nI_clamp (n := t) (by omega)]
          rw [show ((sF (sG u 0 (nsF (u.2.1 15) (u.1 17) x t)) 5 (ncF (u.1 17) x t)).2.1 15 t) = (u.2.1 15 t) from rfl]
          refine lv_ladd hx hb d_Gr_sumUp_41 ?_
          refine x_putl (ci := 1) (k := 5) hx hb ht in_Gr t_Gr t_Gr_ok n_Gr hown hw (by decide) o_Gr rfl 6 (0) (by decide) (ht _ w_100) rfl (by decide +kernel) (Nat.le_of_ble_eq_true rfl) rfl rfl d_Gr_sumUp_42 (fun H locs hw => ?_)
          rw [show (sG (sF (sG u 0 (nsF (u.2.1 15) (u.1 17) x t)) 5 (ncF (u.1 17) x t)) 0 ((nsF (u.2.1 15) (u.1 17) x t) + (u.2.1 15 t))) = (sF (sG u 0 ((nsF (u.2.1 15) (u.1 17) x t) + (u.2.1 15 t))) 5 (ncF (u.1 17) x t)) from sG_sF _ _ _ _] at hw
          refine lv_aload_n hx hb d_Gr_sumUp_45 rfl (lv_at hl 1 rfl) ?_
          refine lv_dup hx hb d_Gr_sumUp_46 rfl ?_
          refine x_get (ci := 1) (k := 5) hx hb ht in_Gr hown hw (by decide) o_Gr rfl 7 (by decide) (ht _ w_101) rfl d_Gr_sumUp_47 ?_
          rw [show ((sF (sG u 0 ((nsF (u.2.1 15) (u.1 17) x t) + (u.2.1 15 t))) 5 (ncF (u.1 17) x t)).2.2.1 5) = (ncF (u.1 17) x t) from rfl]
          refine lv_iconst (v := 1) hx hb d_Gr_sumUp_50 (by decide) ?_
          refine lv_iadd hx hb d_Gr_sumUp_51 ?_
          refine x_puti (ci := 1) (k := 5) hx hb ht in_Gr t_Gr t_Gr_ok n_Gr hown hw (by decide) o_Gr rfl 7 (5) (by decide) (ht _ w_101) rfl (by decide +kernel) (Nat.le_of_ble_eq_true rfl) rfl rfl d_Gr_sumUp_52 (fun H locs hw => ?_)
          rw [show (sF (sF (sG u 0 ((nsF (u.2.1 15) (u.1 17) x t) + (u.2.1 15 t))) 5 (ncF (u.1 17) x t)) 5 ((ncF (u.1 17) x t) + 1)) = (sF (sG u 0 ((nsF (u.2.1 15) (u.1 17) x t) + (u.2.1 15 t))) 5 ((ncF (u.1 17) x t) + 1)) from sF_sF _ _ _ _] at hw
          refine lv_iinc (v := (nI (t + 1))) (lv' := [(2, .int (nI (t + 1))), (0, .ref (ad 5)), (1, .int x)]) hx hb d_Gr_sumUp_55 hl (k := 0) rfl (nI_1 _) (by decide) rfl (fun ls hl => ?_)
          refine lv_goto (tgt := 12) hx hb d_Gr_sumUp_58 (by decide) ?_
          exact ih12 (t + 1) (by omega) (by omega) _ _ (by simp only [nsF, ncF]; first | (rw [if_pos c27, if_pos c27]; exact hw) | (rw [if_neg c27, if_neg c27]; exact hw)) ls (lv_sub hl [0, 1, 2] rfl)
  exact L12 ((k - 0) + 1) (0) (by omega) (by omega) _ _ hw ls (lv_sub hl [0, 1, 2] rfl))
set_option maxHeartbeats 4000000 in
set_option maxRecDepth 100000 in
theorem m_Gr_weighSplit {l : Launch} {D : va_G} {g : Ids} {ad : Nat → Nat} {u : St} (f : Int32) (x : Int32) (y : Int64) (a : Int32) : XMv l D g ad y_Gr_weighSplit b_Gr_weighSplit 9 (none) (rmN 2 43) [.ref (ad 5), .int f, .int x, .long y, .int a] u (fun w => w = wsF u f x y a) := fun sz => x_met (by decide) (Nat.le_of_ble_eq_true rfl) (fun p e s m below meth c hsz hx hb hr hml hown ht hlk hw ls hl => by
  have hA : ∀ q, s.heap.size ≤ q → AX ad sz q := fun q h => Or.inr (hsz ▸ h)
  have hl : lv_has ls 9 [(0, .ref (ad 5)), (1, .int f), (2, .int x), (3, .long y), (5, .int a)] := hl
  refine lv_aload_n hx hb d_Gr_weighSplit_0 rfl (lv_at hl 0 rfl) ?_
  refine x_get (ci := 1) (k := 5) hx hb ht in_Gr hown hw (by decide) o_Gr rfl 7 (by decide) (ht _ w_101) rfl d_Gr_weighSplit_1 ?_
  refine lv_iload hx hb d_Gr_weighSplit_4 (lv_at hl 4 rfl) ?_
  refine lv_isub hx hb d_Gr_weighSplit_6 ?_
  refine lv_istore (lv' := [(6, .int ((u.2.2.1 5) - a)), (0, .ref (ad 5)), (1, .int f), (2, .int x), (3, .long y), (5, .int a)]) hx hb d_Gr_weighSplit_7 hl (by decide) rfl (fun ls hl => ?_)
  refine lv_iload hx hb d_Gr_weighSplit_9 (lv_at hl 5 rfl) ?_
  refine lv_aload_n hx hb d_Gr_weighSplit_11 rfl (lv_at hl 1 rfl) ?_
  refine x_get (ci := 1) (k := 5) hx hb ht in_Gr hown hw (by decide) o_Gr rfl 5 (by decide) (ht _ w_99) rfl d_Gr_weighSplit_12 ?_
  refine lv_icmp_lt (tgt := 27) hx hb d_Gr_weighSplit_15 (by decide) (fun c15 => ?_) (fun c15 => ?_)
  · exact x_vret hsz hx hb hr hlk hw (by simp [wsF, c15]) d_Gr_weighSplit_27
  · refine lv_iload hx hb d_Gr_weighSplit_18 (lv_at hl 0 rfl) ?_
    refine lv_aload_n hx hb d_Gr_weighSplit_20 rfl (lv_at hl 1 rfl) ?_
    refine x_get (ci := 1) (k := 5) hx hb ht in_Gr hown hw (by decide) o_Gr rfl 5 (by decide) (ht _ w_99) rfl d_Gr_weighSplit_21 ?_
    refine lv_icmp_ge (tgt := 28) hx hb d_Gr_weighSplit_24 (by decide) (fun c24 => ?_) (fun c24 => ?_)
    · refine lv_lload_n hx hb d_Gr_weighSplit_28 rfl (lv_at hl 4 rfl) ?_
      refine lv_iload hx hb d_Gr_weighSplit_29 (lv_at hl 5 rfl) ?_
      refine x_cl (x_runS (na := 2) (As := [.long y, .int a]) (rest := []) ⟨hx, hb, hml, hown, ht⟩ (m_Gr_worth y a _) w_301 w_302 w_7 w_303 (by decide +kernel) ⟨rfl, rfl, by decide, by decide⟩ hw rfl hl.1 rfl (Nat.le_of_ble_eq_true rfl) d_Gr_weighSplit_31 ⟨Nat.zero_le _, Nat.zero_le _⟩) hw hA (fun v31 u31 H locs hp hw => ?_)
      obtain ⟨hv9, hu⟩ := hp
      subst hv9
      have hu := hu.symm
      subst hu
      refine lv_aload_n hx hb d_Gr_weighSplit_34 rfl (lv_at hl 1 rfl) ?_
      refine x_get (ci := 1) (k := 5) hx hb ht in_Gr hown hw (by decide) o_Gr rfl 6 (by decide) (ht _ w_100) rfl d_Gr_weighSplit_35 ?_
      refine lv_lload_n hx hb d_Gr_weighSplit_38 rfl (lv_at hl 4 rfl) ?_
      refine lv_lsub hx hb d_Gr_weighSplit_39 ?_
      refine lv_iload hx hb d_Gr_weighSplit_40 (lv_at hl 0 rfl) ?_
      refine x_cl (x_runS (na := 2) (As := [.long ((u.2.2.2 0) - y), .int ((u.2.2.1 5) - a)]) (rest := [.long (worthI y a)]) ⟨hx, hb, hml, hown, ht⟩ (m_Gr_worth ((u.2.2.2 0) - y) ((u.2.2.1 5) - a) _) w_301 w_302 w_7 w_303 (by decide +kernel) ⟨rfl, rfl, by decide, by decide⟩ hw rfl hl.1 rfl (Nat.le_of_ble_eq_true rfl) d_Gr_weighSplit_42 ⟨Nat.zero_le _, Nat.zero_le _⟩) hw hA (fun v42 u42 H locs hp hw => ?_)
      obtain ⟨hv9, hu⟩ := hp
      subst hv9
      have hu := hu.symm
      subst hu
      refine lv_ladd hx hb d_Gr_weighSplit_45 ?_
      refine lv_lstore (lv' := [(7, .long ((worthI y a) + (worthI ((u.2.2.2 0) - y) ((u.2.2.1 5) - a)))), (6, .int ((u.2.2.1 5) - a)), (0, .ref (ad 5)), (1, .int f), (2, .int x), (3, .long y), (5, .int a)]) hx hb d_Gr_weighSplit_46 hl (by decide) rfl (fun ls hl => ?_)
      refine lv_lload hx hb d_Gr_weighSplit_48 (lv_at hl 0 rfl) ?_
      refine lv_aload_n hx hb d_Gr_weighSplit_50 rfl (lv_at hl 2 rfl) ?_
      refine x_get (ci := 1) (k := 5) hx hb ht in_Gr hown hw (by decide) o_Gr rfl 8 (by decide) (ht _ w_102) rfl d_Gr_weighSplit_51 ?_
      refine W.lcmp hx hb d_Gr_weighSplit_54 ?_
      refine lv_if_le (tgt := 74) hx hb d_Gr_weighSplit_55 (by decide) (fun c55 => ?_) (fun c55 => ?_)
      · exact x_vret hsz hx hb hr hlk hw (by simp [wsF, c15, c24, c55]) d_Gr_weighSplit_74
      · refine lv_aload_n hx hb d_Gr_weighSplit_58 rfl (lv_at hl 2 rfl) ?_
        refine lv_lload hx hb d_Gr_weighSplit_59 (lv_at hl 0 rfl) ?_
        refine x_putl (ci := 1) (k := 5) hx hb ht in_Gr t_Gr t_Gr_ok n_Gr hown hw (by decide) o_Gr rfl 8 (1) (by decide) (ht _ w_102) rfl (by decide +kernel) (Nat.le_of_ble_eq_true rfl) rfl rfl d_Gr_weighSplit_61 (fun H locs hw => ?_)
        refine lv_aload_n hx hb d_Gr_weighSplit_64 rfl (lv_at hl 2 rfl) ?_
        refine lv_iload_n hx hb d_Gr_weighSplit_65 rfl (lv_at hl 3 rfl) ?_
        refine x_puti (ci := 1) (k := 5) hx hb ht in_Gr t_Gr t_Gr_ok n_Gr hown hw (by decide) o_Gr rfl 9 (6) (by decide) (ht _ w_103) rfl (by decide +kernel) (Nat.le_of_ble_eq_true rfl) rfl rfl d_Gr_weighSplit_66 (fun H locs hw => ?_)
        refine lv_aload_n hx hb d_Gr_weighSplit_69 rfl (lv_at hl 2 rfl) ?_
        refine lv_iload_n hx hb d_Gr_weighSplit_70 rfl (lv_at hl 4 rfl) ?_
        refine x_puti (ci := 1) (k := 5) hx hb ht in_Gr t_Gr t_Gr_ok n_Gr hown hw (by decide) o_Gr rfl 10 (7) (by decide) (ht _ w_104) rfl (by decide +kernel) (Nat.le_of_ble_eq_true rfl) rfl rfl d_Gr_weighSplit_71 (fun H locs hw => ?_)
        exact x_vret hsz hx hb hr hlk hw (by simp [wsF, c15, c24, c55]) d_Gr_weighSplit_74
    · exact x_vret hsz hx hb hr hlk hw (by simp [wsF, c15, c24]) d_Gr_weighSplit_27)
set_option maxHeartbeats 4000000 in
set_option maxRecDepth 100000 in
theorem m_Gr_walkThresholds {l : Launch} {D : va_G} {g : Ids} {ad : Nat → Nat} {u : St} (x : Int32) (f : Nat) (k : Nat) (hf5 : f < 5) (hk16 : k ≤ 16) (hns : u.2.2.1 3 = nI k) (hord : ∀ i, i < k → ∃ j : Nat, j < 16 ∧ u.1 (54 + f) i = nI j) : XMv l D g ad y_Gr_walkThresholds b_Gr_walkThresholds 9 (none) (rmN 3 71) [.ref (ad 5), .int x, .int (nI f)] u (fun z => z = (wtF u x f k).2.2.2) := fun sz => x_met (by decide) (Nat.le_of_ble_eq_true rfl) (fun p e s m below meth c hsz hx hb hr hml hown ht hlk hw ls hl => by
  have hA : ∀ q, s.heap.size ≤ q → AX ad sz q := fun q h => Or.inr (hsz ▸ h)
  have hl : lv_has ls 9 [(0, .ref (ad 5)), (1, .int x), (2, .int (nI f))] := hl
  refine lv_lconst (v := 0) hx hb d_Gr_walkThresholds_0 (by decide) ?_
  refine lv_lstore_n (lv' := [(3, .long 0), (0, .ref (ad 5)), (1, .int x), (2, .int (nI f))]) hx hb d_Gr_walkThresholds_1 rfl hl (by decide) rfl (fun ls hl => ?_)
  refine lv_iconst (v := 0) hx hb d_Gr_walkThresholds_2 (by decide) ?_
  refine lv_istore (lv' := [(5, .int 0), (3, .long 0), (0, .ref (ad 5)), (1, .int x), (2, .int (nI f))]) hx hb d_Gr_walkThresholds_3 hl (by decide) rfl (fun ls hl => ?_)
  refine lv_iconst (v := 0) hx hb d_Gr_walkThresholds_5 (by decide) ?_
  refine lv_istore (lv' := [(6, .int 0), (5, .int 0), (3, .long 0), (0, .ref (ad 5)), (1, .int x), (2, .int (nI f))]) hx hb d_Gr_walkThresholds_6 hl (by decide) rfl (fun ls hl => ?_)
  refine lv_iconst (v := 0) hx hb d_Gr_walkThresholds_8 (by decide) ?_
  refine lv_istore (lv' := [(7, .int 0), (6, .int 0), (5, .int 0), (3, .long 0), (0, .ref (ad 5)), (1, .int x), (2, .int (nI f))]) hx hb d_Gr_walkThresholds_9 hl (by decide) rfl (fun ls hl => ?_)
  have L11 : ∀ (n11 : Nat) (t : Nat) (a : Int64) (b : Int32) (r : Int32) (w : St), t ≤ k → wtF u x f t = (a, b, r, w) → w.1 = u.1 → w.2.1 = u.2.1 → w.2.2.1 3 = nI k → k - t < n11 → ∀ (H : Heap) (locs : List Loc), XH D g ad (AX ad sz) s s.heap H locs w → ∀ ls : Array Slot, lv_has ls 9 [(7, .int (nI t)), (6, .int r), (5, .int b), (3, .long a), (0, .ref (ad 5)), (1, .int x), (2, .int (nI f))] → W p l e (rmN 3 71) s m ([.ref (ad 5), .int x, .int (nI f)] : List Value).toArray below meth c H locs 0 0 (MQ below (va_Qv (fun z => z = (wtF u x f k).2.2.2) (XB D g ad sz) (AX ad sz)) ([.ref (ad 5), .int x, .int (nI f)] : List Value).toArray s 0 0 (AX ad sz)) (F0 m 11 ls []) := by
    intro n11
    induction n11 with
    | zero => intro t a b r w h1 hv hw1 hw2 hw3 hz; exact absurd hz (by omega)
    | succ n11 ih11 =>
      intro t a b r w h1 hv hw1 hw2 hw3 hnL11 H locs hw ls hl
      refine lv_iload hx hb d_Gr_walkThresholds_11 (lv_at hl 0 rfl) ?_
      refine lv_aload_n hx hb d_Gr_walkThresholds_13 rfl (lv_at hl 4 rfl) ?_
      refine x_get (ci := 1) (k := 5) hx hb ht in_Gr hown hw (by decide) o_Gr rfl 3 (by decide) (ht _ w_97) rfl d_Gr_walkThresholds_14 ?_
      rw [show (w.2.2.1 3) = (nI k) from hw3]
      refine lv_icmp_ge (tgt := 96) hx hb d_Gr_walkThresholds_17 (by decide) (fun c17 => ?_) (fun c17 => ?_)
      · have h17 : (k) ≤ (t) := (nI_leI (a := k) (b := t) (by omega) (by omega)).mp c17
        exact x_vret hsz hx hb hr hlk hw (by rw [show t = k by omega] at hv; rw [hv]) d_Gr_walkThresholds_96
      · have h17 : ¬ (k) ≤ (t) := fun hz9 => c17 ((nI_leI (a := k) (b := t) (by omega) (by omega)).mpr hz9)
        obtain ⟨j, hj16, hoj⟩ := hord t (by omega)
        refine lv_aload_n hx hb d_Gr_walkThresholds_20 rfl (lv_at hl 4 rfl) ?_
        refine x_get (ci := 1) (k := 5) hx hb ht in_Gr hown hw (by decide) o_Gr rfl 2 (by decide) (ht _ w_96) rfl d_Gr_walkThresholds_21 ?_
        refine lv_iload_n hx hb d_Gr_walkThresholds_24 rfl (lv_at hl 6 rfl) ?_
        refine x_aald (k := 16) (b := 54) (n := 5) (t0 := 3) hx hb hw (by decide) (fun _ => rfl) rfl rfl (vp_in_nI (by omega) (by decide)) d_Gr_walkThresholds_25 ?_
        rw [nI_clamp (n := f) (by omega)]
        refine lv_iload hx hb d_Gr_walkThresholds_26 (lv_at hl 0 rfl) ?_
        refine x_iald (k := 54 + f) hx hb hw (by omega) (xk_go _ hf5).1 (vin (N := 16) (by omega) (xk_go _ hf5).2 (by omega)) d_Gr_walkThresholds_28 ?_
        rw [nI_clamp (n := t) (by omega)]
        rw [show (w.1 (54 + f) t) = (nI j) from by rw [hw1]; exact hoj]
        refine lv_istore (lv' := [(8, .int (nI j)), (7, .int (nI t)), (6, .int r), (5, .int b), (3, .long a), (0, .ref (ad 5)), (1, .int x), (2, .int (nI f))]) hx hb d_Gr_walkThresholds_29 hl (by decide) rfl (fun ls hl => ?_)
        refine lv_aload_n hx hb d_Gr_walkThresholds_31 rfl (lv_at hl 5 rfl) ?_
        refine x_get (ci := 1) (k := 5) hx hb ht in_Gr hown hw (by decide) o_Gr rfl 4 (by decide) (ht _ w_98) rfl d_Gr_walkThresholds_32 ?_
        refine lv_iload hx hb d_Gr_walkThresholds_35 (lv_at hl 0 rfl) ?_
        refine x_iald (k := 17) hx hb hw (by decide) rfl (vin (N := 16) (by omega) rfl (by omega)) d_Gr_walkThresholds_37 ?_
        rw [nI_clamp (n := j) (by omega)]
        rw [show (w.1 17 j) = (u.1 17 j) from by rw [hw1]]
        refine lv_iload_n hx hb d_Gr_walkThresholds_38 rfl (lv_at hl 6 rfl) ?_
        refine lv_icmp_ne (tgt := 90) hx hb d_Gr_walkThresholds_39 (by decide) (fun c39 => ?_) (fun c39 => ?_)
        · refine lv_iinc (v := (nI (t + 1))) (lv' := [(7, .int (nI (t + 1))), (8, .int (nI j)), (6, .int r), (5, .int b), (3, .long a), (0, .ref (ad 5)), (1, .int x), (2, .int (nI f))]) hx hb d_Gr_walkThresholds_90 hl (k := 1) rfl (nI_1 _) (by decide) rfl (fun ls hl => ?_)
          refine lv_goto (tgt := 11) hx hb d_Gr_walkThresholds_93 (by decide) ?_
          exact ih11 (t + 1) (a) (b) (r) (w) (by omega) (by simp only [wtF]; rw [hv, hoj, nI_clamp (by omega)]; first | (rw [if_pos c39, if_pos c53]; done) | (rw [if_pos c39, if_neg c53]; done) | (rw [if_neg c39]; done)) (by first | exact hw1 | (rw [wsF_1]; exact hw1)) (by first | exact hw2 | (rw [wsF_2]; exact hw2)) (by first | exact hw3 | (rw [wsF_3]; exact hw3)) (by omega) _ _ hw ls (lv_sub hl [0, 2, 3, 4, 5, 6, 7] rfl)
        · refine lv_aload_n hx hb d_Gr_walkThresholds_42 rfl (lv_at hl 5 rfl) ?_
          refine x_get (ci := 1) (k := 5) hx hb ht in_Gr hown hw (by decide) o_Gr rfl 0 (by decide) (ht _ w_94) rfl d_Gr_walkThresholds_43 ?_
          refine lv_iload hx hb d_Gr_walkThresholds_46 (lv_at hl 0 rfl) ?_
          refine x_aald (k := 14) (b := 38) (n := 16) (t0 := 3) hx hb hw (by decide) (fun _ => rfl) rfl rfl (vp_in_nI (by omega) (by decide)) d_Gr_walkThresholds_48 ?_
          rw [nI_clamp (n := j) (by omega)]
          refine lv_iload_n hx hb d_Gr_walkThresholds_49 rfl (lv_at hl 7 rfl) ?_
          refine x_iald (k := 38 + j) hx hb hw (by omega) (xk_gf _ hj16).1 (vin (N := 5) (by omega) (xk_gf _ hj16).2 (by omega)) d_Gr_walkThresholds_50 ?_
          rw [nI_clamp (n := f) (by omega)]
          rw [show (w.1 (38 + j) f) = (u.1 (38 + j) f) from by rw [hw1]]
          refine lv_iload hx hb d_Gr_walkThresholds_51 (lv_at hl 2 rfl) ?_
          refine lv_icmp_le (tgt := 77) hx hb d_Gr_walkThresholds_53 (by decide) (fun c53 => ?_) (fun c53 => ?_)
          · refine lv_lload_n hx hb d_Gr_walkThresholds_77 rfl (lv_at hl 4 rfl) ?_
            refine lv_aload_n hx hb d_Gr_walkThresholds_78 rfl (lv_at hl 5 rfl) ?_
            refine x_get (ci := 1) (k := 5) hx hb ht in_Gr hown hw (by decide) o_Gr rfl 1 (by decide) (ht _ w_95) rfl d_Gr_walkThresholds_79 ?_
            refine lv_iload hx hb d_Gr_walkThresholds_82 (lv_at hl 0 rfl) ?_
            refine x_lald (k := 15) hx hb hw (by decide) rfl (vin (N := 16) (by omega) rfl (by omega)) d_Gr_walkThresholds_84 ?_
            rw [nI_clamp (n := j) (by omega)]
            rw [show (w.2.1 15 j) = (u.2.1 15 j) from by first | rw [hw2] | rw [wsF_2, hw2]]
            refine lv_ladd hx hb d_Gr_walkThresholds_85 ?_
            refine lv_lstore_n (lv' := [(3, .long (a + (u.2.1 15 j))), (8, .int (nI j)), (7, .int (nI t)), (6, .int r), (5, .int b), (0, .ref (ad 5)), (1, .int x), (2, .int (nI f))]) hx hb d_Gr_walkThresholds_86 rfl hl (by decide) rfl (fun ls hl => ?_)
            refine lv_iinc (v := (b + 1)) (lv' := [(5, .int (b + 1)), (3, .long (a + (u.2.1 15 j))), (8, .int (nI j)), (7, .int (nI t)), (6, .int r), (0, .ref (ad 5)), (1, .int x), (2, .int (nI f))]) hx hb d_Gr_walkThresholds_87 hl (k := 4) rfl rfl (by decide) rfl (fun ls hl => ?_)
            refine lv_iinc (v := (nI (t + 1))) (lv' := [(7, .int (nI (t + 1))), (5, .int (b + 1)), (3, .long (a + (u.2.1 15 j))), (8, .int (nI j)), (6, .int r), (0, .ref (ad 5)), (1, .int x), (2, .int (nI f))]) hx hb d_Gr_walkThresholds_90 hl (k := 3) rfl (nI_1 _) (by decide) rfl (fun ls hl => ?_)
            refine lv_goto (tgt := 11) hx hb d_Gr_walkThresholds_93 (by decide) ?_
            exact ih11 (t + 1) ((a + (u.2.1 15 j))) ((b + 1)) (r) (w) (by omega) (by simp only [wtF]; rw [hv, hoj, nI_clamp (by omega)]; first | (rw [if_pos c39, if_pos c53]; done) | (rw [if_pos c39, if_neg c53]; done) | (rw [if_neg c39]; done)) (by first | exact hw1 | (rw [wsF_1]; exact hw1)) (by first | exact hw2 | (rw [wsF_2]; exact hw2)) (by first | exact hw3 | (rw [wsF_3]; exact hw3)) (by omega) _ _ hw ls (lv_sub hl [0, 4, 1, 2, 5, 6, 7] rfl)
          · refine lv_aload_n hx hb d_Gr_walkThresholds_56 rfl (lv_at hl 5 rfl) ?_
            refine lv_iload_n hx hb d_Gr_walkThresholds_57 rfl (lv_at hl 7 rfl) ?_
            refine lv_iload hx hb d_Gr_walkThresholds_58 (lv_at hl 2 rfl) ?_
            refine lv_lload_n hx hb d_Gr_walkThresholds_60 rfl (lv_at hl 4 rfl) ?_
            refine lv_iload hx hb d_Gr_walkThresholds_61 (lv_at hl 3 rfl) ?_
            refine x_cv (x_runV (na := 4) (k := 5) (As := [.int (nI f), .int r, .long a, .int b]) (rest := []) (ci := 1) ⟨hx, hb, hml, hown, ht⟩ (m_Gr_weighSplit (nI f) r a b _) w_311 w_313 s_7 w_7 w_314 (by decide +kernel) ⟨rfl, rfl, by decide, by decide⟩ hw (by decide) o_Gr rfl rfl hl.1 rfl (Nat.le_of_ble_eq_true rfl) d_Gr_walkThresholds_63 ⟨Nat.zero_le _, Nat.zero_le _⟩) hw hA (fun u63 H locs hp hw => ?_)
            have hu := hp.symm
            subst hu
            refine lv_aload_n hx hb d_Gr_walkThresholds_66 rfl (lv_at hl 5 rfl) ?_
            refine x_get (ci := 1) (k := 5) hx hb ht in_Gr hown hw (by decide) o_Gr rfl 0 (by decide) (ht _ w_94) rfl d_Gr_walkThresholds_67 ?_
            refine lv_iload hx hb d_Gr_walkThresholds_70 (lv_at hl 0 rfl) ?_
            refine x_aald (k := 14) (b := 38) (n := 16) (t0 := 3) hx hb hw (by decide) (fun _ => rfl) rfl rfl (vp_in_nI (by omega) (by decide)) d_Gr_walkThresholds_72 ?_
            rw [nI_clamp (n := j) (by omega)]
            refine lv_iload_n hx hb d_Gr_walkThresholds_73 rfl (lv_at hl 7 rfl) ?_
            refine x_iald (k := 38 + j) hx hb hw (by omega) (xk_gf _ hj16).1 (vin (N := 5) (by omega) (xk_gf _ hj16).2 (by omega)) d_Gr_walkThresholds_74 ?_
            rw [nI_clamp (n := f) (by omega)]
            rw [show ((wsF w (nI f) r a b).1 (38 + j) f) = (u.1 (38 + j) f) from by rw [wsF_1, hw1]]
            refine lv_istore (lv' := [(6, .int (u.1 (38 + j) f)), (8, .int (nI j)), (7, .int (nI t)), (5, .int b), (3, .long a), (0, .ref (ad 5)), (1, .int x), (2, .int (nI f))]) hx hb d_Gr_walkThresholds_75 hl (by decide) rfl (fun ls hl => ?_)
            refine lv_lload_n hx hb d_Gr_walkThresholds_77 rfl (lv_at hl 4 rfl) ?_
            refine lv_aload_n hx hb d_Gr_walkThresholds_78 rfl (lv_at hl 5 rfl) ?_
            refine x_get (ci := 1) (k := 5) hx hb ht in_Gr hown hw (by decide) o_Gr rfl 1 (by decide) (ht _ w_95) rfl d_Gr_walkThresholds_79 ?_
            refine lv_iload hx hb d_Gr_walkThresholds_82 (lv_at hl 1 rfl) ?_
            refine x_lald (k := 15) hx hb hw (by decide) rfl (vin (N := 16) (by omega) rfl (by omega)) d_Gr_walkThresholds_84 ?_
            rw [nI_clamp (n := j) (by omega)]
            rw [show ((wsF w (nI f) r a b).2.1 15 j) = (u.2.1 15 j) from by first | rw [hw2] | rw [wsF_2, hw2]]
            refine lv_ladd hx hb d_Gr_walkThresholds_85 ?_
            refine lv_lstore_n (lv' := [(3, .long (a + (u.2.1 15 j))), (6, .int (u.1 (38 + j) f)), (8, .int (nI j)), (7, .int (nI t)), (5, .int b), (0, .ref (ad 5)), (1, .int x), (2, .int (nI f))]) hx hb d_Gr_walkThresholds_86 rfl hl (by decide) rfl (fun ls hl => ?_)
            refine lv_iinc (v := (b + 1)) (lv' := [(5, .int (b + 1)), (3, .long (a + (u.2.1 15 j))), (6, .int (u.1 (38 + j) f)), (8, .int (nI j)), (7, .int (nI t)), (0, .ref (ad 5)), (1, .int x), (2, .int (nI f))]) hx hb d_Gr_walkThresholds_87 hl (k := 4) rfl rfl (by decide) rfl (fun ls hl => ?_)
            refine lv_iinc (v := (nI (t + 1))) (lv' := [(7, .int (nI (t + 1))), (5, .int (b + 1)), (3, .long (a + (u.2.1 15 j))), (6, .int (u.1 (38 + j) f)), (8, .int (nI j)), (0, .ref (ad 5)), (1, .int x), (2, .int (nI f))]) hx hb d_Gr_walkThresholds_90 hl (k := 4) rfl (nI_1 _) (by decide) rfl (fun ls hl => ?_)
            refine lv_goto (tgt := 11) hx hb d_Gr_walkThresholds_93 (by decide) ?_
            exact ih11 (t + 1) ((a + (u.2.1 15 j))) ((b + 1)) ((u.1 (38 + j) f)) ((wsF w (nI f) r a b)) (by omega) (by simp only [wtF]; rw [hv, hoj, nI_clamp (by omega)]; first | (rw [if_pos c39, if_pos c53]; done) | (rw [if_pos c39, if_neg c53]; done) | (rw [if_neg c39]; done)) (by first | exact hw1 | (rw [wsF_1]; exact hw1)) (by first | exact hw2 | (rw [wsF_2]; exact hw2)) (by first | exact hw3 | (rw [wsF_3]; exact hw3)) (by omega) _ _ hw ls (lv_sub hl [0, 3, 1, 2, 5, 6, 7] rfl)
  exact L11 ((k - 0) + 1) (0) (0) (0) (0) (u) (by omega) (rfl) (rfl) (rfl) (hns) (by omega) _ _ hw ls (lv_sub hl [0, 1, 2, 3, 4, 5, 6] rfl))
