def hiF (a y : Int32) : Int32 := if a ≤ y then 0 else 1
def szN (u : St) (x : Int32) (f : Nat) (y z : Int32) : Nat → Nat
  | 0 => 0
  | t + 1 => if u.1 86 t = x then (if (if u.1 85 (t * 5 + f) ≤ y then (0 : Int32) else 1) = z then szN u x f y z t + 1 else szN u x f y z t) else szN u x f y z t
def psF (u : St) (x : Int32) (f : Nat) (y z : Int32) : Nat → Int64
  | 0 => 0
  | t + 1 => if u.1 86 t = x then (if 2 ≤ z then psF u x f y z t + u.2.1 87 t else if (if u.1 85 (t * 5 + f) ≤ y then (0 : Int32) else 1) = (if z = 1 then 1 else 0) then psF u x f y z t + u.2.1 87 t else psF u x f y z t) else psF u x f y z t
def pmN (u : St) (x : Int32) (f : Nat) (y z : Int32) : Nat → Nat
  | 0 => 0
  | t + 1 => if u.1 86 t = x then (if 2 ≤ z then pmN u x f y z t + 1 else if (if u.1 85 (t * 5 + f) ≤ y then (0 : Int32) else 1) = (if z = 1 then 1 else 0) then pmN u x f y z t + 1 else pmN u x f y z t) else pmN u x f y z t
theorem pmN_le (u : St) (x : Int32) (f : Nat) (y z : Int32) : ∀ t, pmN u x f y z t ≤ t := by
  intro t
  induction t with
  | zero => exact Nat.le_refl 0
  | succ t ih =>
    simp only [pmN]
    repeat' split
    all_goals omega
theorem szN_le (u : St) (x : Int32) (f : Nat) (y z : Int32) : ∀ t, szN u x f y z t ≤ t := by
  intro t
  induction t with
  | zero => exact Nat.le_refl 0
  | succ t ih =>
    simp only [szN]
    repeat' split
    all_goals omega
def partF (u : St) (x : Int32) (f : Nat) (y z : Int32) (k : Nat) : Int64 := if pmN u x f y z k = 0 then 0 else psF u x f y z k * psF u x f y z k / (nI (shareN (pmN u x f y z k))).toInt64
set_option maxHeartbeats 4000000 in
set_option maxRecDepth 100000 in
theorem m_M_size {l : Launch} {D : va_G} {g : Ids} {ad : Nat → Nat} {u : St} (x : Int32) (f : Nat) (y : Int32) (z : Int32) (k : Nat) (hf5 : f < 5) (hk16 : k ≤ 16) (hns : u.2.2.1 12 = nI k) : XMi l D g ad y_M_size b_M_size 7 ((some .int)) (rmN 0 0) [.ref (ad 75), .int x, .int (nI f), .int y, .int z] u (fun v w => v = nI (szN u x f y z k) ∧ w = u) := fun sz => x_met (by decide) (Nat.le_of_ble_eq_true rfl) (fun p e s m below meth c hsz hx hb hr hml hown ht hlk hw ls hl => by
  have hA : ∀ q, s.heap.size ≤ q → AX ad sz q := fun q h => Or.inr (hsz ▸ h)
  have hl : lv_has ls 7 [(0, .ref (ad 75)), (1, .int x), (2, .int (nI f)), (3, .int y), (4, .int z)] := hl
  refine lv_iconst (v := 0) hx hb d_M_size_0 (by decide) ?_
  refine lv_istore (lv' := [(5, .int 0), (0, .ref (ad 75)), (1, .int x), (2, .int (nI f)), (3, .int y), (4, .int z)]) hx hb d_M_size_1 hl (by decide) rfl (fun ls hl => ?_)
  refine lv_iconst (v := 0) hx hb d_M_size_3 (by decide) ?_
  refine lv_istore (lv' := [(6, .int 0), (5, .int 0), (0, .ref (ad 75)), (1, .int x), (2, .int (nI f)), (3, .int y), (4, .int z)]) hx hb d_M_size_4 hl (by decide) rfl (fun ls hl => ?_)
  have L6 : ∀ (n6 : Nat) (t : Nat), t ≤ k → k - t < n6 → ∀ (H : Heap) (locs : List Loc), XH D g ad (AX ad sz) s s.heap H locs u → ∀ ls : Array Slot, lv_has ls 7 [(6, .int (nI t)), (5, .int (nI (szN u x f y z t))), (0, .ref (ad 75)), (1, .int x), (2, .int (nI f)), (3, .int y), (4, .int z)] → W p l e (rmN 0 0) s m ([.ref (ad 75), .int x, .int (nI f), .int y, .int z] : List Value).toArray below meth c H locs 0 0 (MQ below (va_Qi (fun v w => v = nI (szN u x f y z k) ∧ w = u) (XB D g ad sz) (AX ad sz)) ([.ref (ad 75), .int x, .int (nI f), .int y, .int z] : List Value).toArray s 0 0 (AX ad sz)) (F0 m 6 ls []) := by
    intro n6
    induction n6 with
    | zero => intro t h1 hz; exact absurd hz (by omega)
    | succ n6 ih6 =>
      intro t h1 hnL6 H locs hw ls hl
      refine lv_iload hx hb d_M_size_6 (lv_at hl 0 rfl) ?_
      refine lv_aload_n hx hb d_M_size_8 rfl (lv_at hl 2 rfl) ?_
      refine x_get (ci := 7) (k := 75) hx hb ht in_M hown hw (by decide) o_M rfl 14 (by decide) (ht _ w_500) rfl d_M_size_9 ?_
      rw [show (u.2.2.1 12) = (nI k) from hns]
      refine lv_icmp_ge (tgt := 60) hx hb d_M_size_12 (by decide) (fun c12 => ?_) (fun c12 => ?_)
      · have h12 : (k) ≤ (t) := (nI_leI (a := k) (b := t) (by omega) (by omega)).mp c12
        refine lv_iload hx hb d_M_size_60 (lv_at hl 1 rfl) ?_
        exact x_iret hsz hx hb hr hlk hw ⟨by rw [show t = k by omega], rfl⟩ d_M_size_62
      · have h12 : ¬ (k) ≤ (t) := fun hz9 => c12 ((nI_leI (a := k) (b := t) (by omega) (by omega)).mpr hz9)
        refine lv_aload_n hx hb d_M_size_15 rfl (lv_at hl 2 rfl) ?_
        refine x_get (ci := 7) (k := 75) hx hb ht in_M hown hw (by decide) o_M rfl 12 (by decide) (ht _ w_498) rfl d_M_size_16 ?_
        refine lv_iload hx hb d_M_size_19 (lv_at hl 0 rfl) ?_
        refine x_iald (k := 86) hx hb hw (by decide) rfl (vin (N := 16) (by omega) rfl (by omega)) d_M_size_21 ?_
        rw [nI_clamp (n := t) (by omega)]
        refine lv_iload_n hx hb d_M_size_22 rfl (lv_at hl 3 rfl) ?_
        refine lv_icmp_ne (tgt := 54) hx hb d_M_size_23 (by decide) (fun c23 => ?_) (fun c23 => ?_)
        · refine lv_iinc (v := (nI (t + 1))) (lv' := [(6, .int (nI (t + 1))), (5, .int (nI (szN u x f y z t))), (0, .ref (ad 75)), (1, .int x), (2, .int (nI f)), (3, .int y), (4, .int z)]) hx hb d_M_size_54 hl (k := 0) rfl (nI_1 _) (by decide) rfl (fun ls hl => ?_)
          refine lv_goto (tgt := 6) hx hb d_M_size_57 (by decide) ?_
          exact ih6 (t + 1) (by omega) (by omega) _ _ hw ls (by rw [← (show (nI (szN u x f y z t)) = (nI (szN u x f y z (t + 1))) from (by simp [szN, c12, c23]))]; exact lv_sub hl [0, 1, 2, 3, 4, 5, 6] rfl)
        · refine lv_aload_n hx hb d_M_size_26 rfl (lv_at hl 2 rfl) ?_
          refine x_get (ci := 7) (k := 75) hx hb ht in_M hown hw (by decide) o_M rfl 11 (by decide) (ht _ w_497) rfl d_M_size_27 ?_
          refine lv_iload hx hb d_M_size_30 (lv_at hl 0 rfl) ?_
          refine lv_iconst (v := 5) hx hb d_M_size_32 (by decide) ?_
          refine lv_imul hx hb d_M_size_33 ?_
          rw [show ((nI t) * 5) = (nI (t * 5)) from pk_mul _ _]
          refine lv_iload_n hx hb d_M_size_34 rfl (lv_at hl 4 rfl) ?_
          refine lv_iadd hx hb d_M_size_35 ?_
          rw [show ((nI (t * 5)) + (nI f)) = (nI (t * 5 + f)) from nI_add _ _]
          refine x_iald (k := 85) hx hb hw (by decide) rfl (vin (N := 80) (by omega) rfl (by omega)) d_M_size_36 ?_
          rw [nI_clamp (n := t * 5 + f) (by omega)]
          refine lv_iload_n hx hb d_M_size_37 rfl (lv_at hl 5 rfl) ?_
          refine lv_icmp_le (tgt := 45) hx hb d_M_size_38 (by decide) (fun c38 => ?_) (fun c38 => ?_)
          · refine lv_iconst (v := 0) hx hb d_M_size_45 (by decide) ?_
            refine lv_iload hx hb d_M_size_46 (lv_at hl 6 rfl) ?_
            refine lv_icmp_ne (tgt := 54) hx hb d_M_size_48 (by decide) (fun c48 => ?_) (fun c48 => ?_)
            · refine lv_iinc (v := (nI (t + 1))) (lv' := [(6, .int (nI (t + 1))), (5, .int (nI (szN u x f y z t))), (0, .ref (ad 75)), (1, .int x), (2, .int (nI f)), (3, .int y), (4, .int z)]) hx hb d_M_size_54 hl (k := 0) rfl (nI_1 _) (by decide) rfl (fun ls hl => ?_)
              refine lv_goto (tgt := 6) hx hb d_M_size_57 (by decide) ?_
              exact ih6 (t + 1) (by omega) (by omega) _ _ hw ls (by rw [← (show (nI (szN u x f y z t)) = (nI (szN u x f y z (t + 1))) from (by simp [szN, c12, c23, c38, c48]))]; exact lv_sub hl [0, 1, 2, 3, 4, 5, 6] rfl)
            · refine lv_iinc (v := (nI (szN u x f y z t + 1))) (lv' := [(5, .int (nI (szN u x f y z t + 1))), (6, .int (nI t)), (0, .ref (ad 75)), (1, .int x), (2, .int (nI f)), (3, .int y), (4, .int z)]) hx hb d_M_size_51 hl (k := 1) rfl (nI_1 _) (by decide) rfl (fun ls hl => ?_)
              refine lv_iinc (v := (nI (t + 1))) (lv' := [(6, .int (nI (t + 1))), (5, .int (nI (szN u x f y z t + 1))), (0, .ref (ad 75)), (1, .int x), (2, .int (nI f)), (3, .int y), (4, .int z)]) hx hb d_M_size_54 hl (k := 1) rfl (nI_1 _) (by decide) rfl (fun ls hl => ?_)
              refine lv_goto (tgt := 6) hx hb d_M_size_57 (by decide) ?_
              exact ih6 (t + 1) (by omega) (by omega) _ _ hw ls (by rw [← (show (nI (szN u x f y z t + 1)) = (nI (szN u x f y z (t + 1))) from (by simp [szN, c12, c23, c38, c48]))]; exact lv_sub hl [0, 1, 2, 3, 4, 5, 6] rfl)
          · refine lv_iconst (v := 1) hx hb d_M_size_41 (by decide) ?_
            refine lv_goto (tgt := 46) hx hb d_M_size_42 (by decide) ?_
            refine lv_iload hx hb d_M_size_46 (lv_at hl 6 rfl) ?_
            refine lv_icmp_ne (tgt := 54) hx hb d_M_size_48 (by decide) (fun c48 => ?_) (fun c48 => ?_)
            · refine lv_iinc (v := (nI (t + 1))) (lv' := [(6, .int (nI (t + 1))), (5, .int (nI (szN u x f y z t))), (0, .ref (ad 75)), (1, .int x), (2, .int (nI f)), (3, .int y), (4, .int z)]) hx hb d_M_size_54 hl (k := 0) rfl (nI_1 _) (by decide) rfl (fun ls hl => ?_)
              refine lv_goto (tgt := 6) hx hb d_M_size_57 (by decide) ?_
              exact ih6 (t + 1) (by omega) (by omega) _ _ hw ls (by rw [← (show (nI (szN u x f y z t)) = (nI (szN u x f y z (t + 1))) from (by simp [szN, c12, c23, c38, c48]))]; exact lv_sub hl [0, 1, 2, 3, 4, 5, 6] rfl)
            · refine lv_iinc (v := (nI (szN u x f y z t + 1))) (lv' := [(5, .int (nI (szN u x f y z t + 1))), (6, .int (nI t)), (0, .ref (ad 75)), (1, .int x), (2, .int (nI f)), (3, .int y), (4, .int z)]) hx hb d_M_size_51 hl (k := 1) rfl (nI_1 _) (by decide) rfl (fun ls hl => ?_)
              refine lv_iinc (v := (nI (t + 1))) (lv' := [(6, .int (nI (t + 1))), (5, .int (nI (szN u x f y z t + 1))), (0, .ref (ad 75)), (1, .int x), (2, .int (nI f)), (3, .int y), (4, .int z)]) hx hb d_M_size_54 hl (k := 1) rfl (nI_1 _) (by decide) rfl (fun ls hl => ?_)
              refine lv_goto (tgt := 6) hx hb d_M_size_57 (by decide) ?_
              exact ih6 (t + 1) (by omega) (by omega) _ _ hw ls (by rw [← (show (nI (szN u x f y z t + 1)) = (nI (szN u x f y z (t + 1))) from (by simp [szN, c12, c23, c38, c48]))]; exact lv_sub hl [0, 1, 2, 3, 4, 5, 6] rfl)
  exact L6 ((k - 0) + 1) (0) (by omega) (by omega) _ _ hw ls (lv_sub hl [0, 1, 2, 3, 4, 5, 6] rfl))
set_option maxHeartbeats 4000000 in
set_option maxRecDepth 100000 in
theorem m_M_part {l : Launch} {D : va_G} {g : Ids} {ad : Nat → Nat} {u : St} (x : Int32) (f : Nat) (y : Int32) (z : Int32) (k : Nat) (hf5 : f < 5) (hk16 : k ≤ 16) (hns : u.2.2.1 12 = nI k) : XMl l D g ad y_M_part b_M_part 10 ((some .long)) (rmN 1 21) [.ref (ad 75), .int x, .int (nI f), .int y, .int z] u (fun v w => v = partF u x f y z k ∧ w = u) := fun sz => x_met (by decide) (Nat.le_of_ble_eq_true rfl) (fun p e s m below meth c hsz hx hb hr hml hown ht hlk hw ls hl => by
  have hA : ∀ q, s.heap.size ≤ q → AX ad sz q := fun q h => Or.inr (hsz ▸ h)
  have hl : lv_has ls 10 [(0, .ref (ad 75)), (1, .int x), (2, .int (nI f)), (3, .int y), (4, .int z)] := hl
  refine lv_lconst (v := 0) hx hb d_M_part_0 (by decide) ?_
  refine lv_lstore (lv' := [(5, .long 0), (0, .ref (ad 75)), (1, .int x), (2, .int (nI f)), (3, .int y), (4, .int z)]) hx hb d_M_part_1 hl (by decide) rfl (fun ls hl => ?_)
  refine lv_iconst (v := 0) hx hb d_M_part_3 (by decide) ?_
  refine lv_istore (lv' := [(7, .int 0), (5, .long 0), (0, .ref (ad 75)), (1, .int x), (2, .int (nI f)), (3, .int y), (4, .int z)]) hx hb d_M_part_4 hl (by decide) rfl (fun ls hl => ?_)
  refine lv_iconst (v := 0) hx hb d_M_part_6 (by decide) ?_
  refine lv_istore (lv' := [(8, .int 0), (7, .int 0), (5, .long 0), (0, .ref (ad 75)), (1, .int x), (2, .int (nI f)), (3, .int y), (4, .int z)]) hx hb d_M_part_7 hl (by decide) rfl (fun ls hl => ?_)
  have L9 : ∀ (n9 : Nat) (t : Nat), t ≤ k → k - t < n9 → ∀ (H : Heap) (locs : List Loc), XH D g ad (AX ad sz) s s.heap H locs u → ∀ ls : Array Slot, lv_has ls 10 [(8, .int (nI t)), (7, .int (nI (pmN u x f y z t))), (5, .long (psF u x f y z t)), (0, .ref (ad 75)), (1, .int x), (2, .int (nI f)), (3, .int y), (4, .int z)] → W p l e (rmN 1 21) s m ([.ref (ad 75), .int x, .int (nI f), .int y, .int z] : List Value).toArray below meth c H locs 0 0 (MQ below (va_Ql (fun v w => v = partF u x f y z k ∧ w = u) (XB D g ad sz) (AX ad sz)) ([.ref (ad 75), .int x, .int (nI f), .int y, .int z] : List Value).toArray s 0 0 (AX ad sz)) (F0 m 9 ls []) := by
    intro n9
    induction n9 with
    | zero => intro t h1 hz; exact absurd hz (by omega)
    | succ n9 ih9 =>
      intro t h1 hnL9 H locs hw ls hl
      refine lv_iload hx hb d_M_part_9 (lv_at hl 0 rfl) ?_
      refine lv_aload_n hx hb d_M_part_11 rfl (lv_at hl 3 rfl) ?_
      refine x_get (ci := 7) (k := 75) hx hb ht in_M hown hw (by decide) o_M rfl 14 (by decide) (ht _ w_500) rfl d_M_part_12 ?_
      rw [show (u.2.2.1 12) = (nI k) from hns]
      refine lv_icmp_ge (tgt := 100) hx hb d_M_part_15 (by decide) (fun c15 => ?_) (fun c15 => ?_)
      · have h15 : (k) ≤ (t) := (nI_leI (a := k) (b := t) (by omega) (by omega)).mp c15
        have htk : t = k := by omega
        have hpm := pmN_le u x f y z t
        refine lv_iload hx hb d_M_part_100 (lv_at hl 1 rfl) ?_
        refine lv_if_ne (tgt := 109) hx hb d_M_part_102 (by decide) (fun c102 => ?_) (fun c102 => ?_)
        · have h102 : ¬ (pmN u x f y z t) = (0) := fun hz9 => c102 ((nI_eq (a := pmN u x f y z t) (b := 0) (by omega) (by omega)).mpr hz9)
          refine lv_lload hx hb d_M_part_109 (lv_at hl 2 rfl) ?_
          refine lv_lload hx hb d_M_part_111 (lv_at hl 2 rfl) ?_
          refine lv_lmul hx hb d_M_part_113 ?_
          refine lv_iload hx hb d_M_part_114 (lv_at hl 1 rfl) ?_
          refine x_ci (x_runS (na := 1) (As := [.int (nI (pmN u x f y z t))]) (rest := [.long ((psF u x f y z t) * (psF u x f y z t))]) ⟨hx, hb, hml, hown, ht⟩ (m_M_share (pmN u x f y z t) (by omega) _) w_610 w_611 w_9 w_612 (by decide +kernel) ⟨rfl, rfl, by decide, by decide⟩ hw rfl hl.1 rfl (Nat.le_of_ble_eq_true rfl) d_M_part_116 ⟨Nat.zero_le _, Nat.zero_le _⟩) hw hA (fun v116 u116 H locs hp hw => ?_)
          obtain ⟨hv9, hu⟩ := hp
          subst hv9
          have hu := hu.symm
          subst hu
          refine lv_i2l (v := (nI (shareN (pmN u x f y z t))).toInt64) hx hb d_M_part_119 rfl ?_
          refine lv_ldiv hx hb d_M_part_120 (share_ne _) ?_
          exact x_lret hsz hx hb hr hlk hw ⟨by subst htk; unfold partF; first | (rw [if_pos h102]; done) | (rw [if_neg h102]; done), rfl⟩ d_M_part_121
        · have h102 : (pmN u x f y z t) = (0) := (nI_eq (a := pmN u x f y z t) (b := 0) (by omega) (by omega)).mp c102
          refine lv_lconst (v := 0) hx hb d_M_part_105 (by decide) ?_
          refine lv_goto (tgt := 121) hx hb d_M_part_106 (by decide) ?_
          exact x_lret hsz hx hb hr hlk hw ⟨by subst htk; unfold partF; first | (rw [if_pos h102]; done) | (rw [if_neg h102]; done), rfl⟩ d_M_part_121
      · have h15 : ¬ (k) ≤ (t) := fun hz9 => c15 ((nI_leI (a := k) (b := t) (by omega) (by omega)).mpr hz9)
        refine lv_aload_n hx hb d_M_part_18 rfl (lv_at hl 3 rfl) ?_
        refine x_get (ci := 7) (k := 75) hx hb ht in_M hown hw (by decide) o_M rfl 12 (by decide) (ht _ w_498) rfl d_M_part_19 ?_
        refine lv_iload hx hb d_M_part_22 (lv_at hl 0 rfl) ?_
        refine x_iald (k := 86) hx hb hw (by decide) rfl (vin (N := 16) (by omega) rfl (by omega)) d_M_part_24 ?_
        rw [nI_clamp (n := t) (by omega)]
        refine lv_iload_n hx hb d_M_part_25 rfl (lv_at hl 4 rfl) ?_
        refine lv_icmp_eq (tgt := 32) hx hb d_M_part_26 (by decide) (fun c26 => ?_) (fun c26 => ?_)
        · refine lv_aload_n hx hb d_M_part_32 rfl (lv_at hl 3 rfl) ?_
          refine x_get (ci := 7) (k := 75) hx hb ht in_M hown hw (by decide) o_M rfl 11 (by decide) (ht _ w_497) rfl d_M_part_33 ?_
          refine lv_iload hx hb d_M_part_36 (lv_at hl 0 rfl) ?_
          refine lv_iconst (v := 5) hx hb d_M_part_38 (by decide) ?_
          refine lv_imul hx hb d_M_part_39 ?_
          rw [show ((nI t) * 5) = (nI (t * 5)) from pk_mul _ _]
          refine lv_iload_n hx hb d_M_part_40 rfl (lv_at hl 5 rfl) ?_
          refine lv_iadd hx hb d_M_part_41 ?_
          rw [show ((nI (t * 5)) + (nI f)) = (nI (t * 5 + f)) from nI_add _ _]
          refine x_iald (k := 85) hx hb hw (by decide) rfl (vin (N := 80) (by omega) rfl (by omega)) d_M_part_42 ?_
          rw [nI_clamp (n := t * 5 + f) (by omega)]
          refine lv_iload_n hx hb d_M_part_43 rfl (lv_at hl 6 rfl) ?_
          refine lv_icmp_le (tgt := 51) hx hb d_M_part_44 (by decide) (fun c44 => ?_) (fun c44 => ?_)
          · refine lv_iconst (v := 0) hx hb d_M_part_51 (by decide) ?_
            refine lv_istore (lv' := [(9, .int 0), (8, .int (nI t)), (7, .int (nI (pmN u x f y z t))), (5, .long (psF u x f y z t)), (0, .ref (ad 75)), (1, .int x), (2, .int (nI f)), (3, .int y), (4, .int z)]) hx hb d_M_part_52 hl (by decide) rfl (fun ls hl => ?_)
            refine lv_iload hx hb d_M_part_54 (lv_at hl 8 rfl) ?_
            refine lv_iconst (v := 2) hx hb d_M_part_56 (by decide) ?_
            refine lv_icmp_ge (tgt := 79) hx hb d_M_part_57 (by decide) (fun c57 => ?_) (fun c57 => ?_)
            · refine lv_lload hx hb d_M_part_79 (lv_at hl 3 rfl) ?_
              refine lv_aload_n hx hb d_M_part_81 rfl (lv_at hl 4 rfl) ?_
              refine x_get (ci := 7) (k := 75) hx hb ht in_M hown hw (by decide) o_M rfl 13 (by decide) (ht _ w_499) rfl d_M_part_82 ?_
              refine lv_iload hx hb d_M_part_85 (lv_at hl 1 rfl) ?_
              refine x_lald (k := 87) hx hb hw (by decide) rfl (vin (N := 16) (by omega) rfl (by omega)) d_M_part_87 ?_
              rw [nI_clamp (n := t) (by omega)]
              refine lv_ladd hx hb d_M_part_88 ?_
              refine lv_lstore (lv' := [(5, .long ((psF u x f y z t) + (u.2.1 87 t))), (9, .int 0), (8, .int (nI t)), (7, .int (nI (pmN u x f y z t))), (0, .ref (ad 75)), (1, .int x), (2, .int (nI f)), (3, .int y), (4, .int z)]) hx hb d_M_part_89 hl (by decide) rfl (fun ls hl => ?_)
              refine lv_iinc (v := (nI (pmN u x f y z t + 1))) (lv' := [(7, .int (nI (pmN u x f y z t + 1))), (5, .long ((psF u x f y z t) + (u.2.1 87 t))), (9, .int 0), (8, .int (nI t)), (0, .ref (ad 75)), (1, .int x), (2, .int (nI f)), (3, .int y), (4, .int z)]) hx hb d_M_part_91 hl (k := 3) rfl (nI_1 _) (by decide) rfl (fun ls hl => ?_)
              refine lv_iinc (v := (nI (t + 1))) (lv' := [(8, .int (nI (t + 1))), (7, .int (nI (pmN u x f y z t + 1))), (5, .long ((psF u x f y z t) + (u.2.1 87 t))), (9, .int 0), (0, .ref (ad 75)), (1, .int x), (2, .int (nI f)), (3, .int y), (4, .int z)]) hx hb d_M_part_94 hl (k := 3) rfl (nI_1 _) (by decide) rfl (fun ls hl => ?_)
              refine lv_goto (tgt := 9) hx hb d_M_part_97 (by decide) ?_
              exact ih9 (t + 1) (by omega) (by omega) _ _ hw ls (by rw [← (show ((psF u x f y z t) + (u.2.1 87 t)) = (psF u x f y z (t + 1)) from (by simp only [psF]; first | (rw [if_neg c26]; done) | (rw [if_pos c26, if_pos c57]; done) | (rw [if_pos c26, if_neg c57]; simp [c44, c65, c73]; done) | (rw [if_pos c26, if_neg c57]; simp [c44, c65] at c73 ⊢; done) | (exact absurd c73 (by decide)))), ← (show (nI (pmN u x f y z t + 1)) = (nI (pmN u x f y z (t + 1))) from (by simp only [pmN]; first | (rw [if_neg c26]; done) | (rw [if_pos c26, if_pos c57]; done) | (rw [if_pos c26, if_neg c57]; simp [c44, c65, c73]; done) | (rw [if_pos c26, if_neg c57]; simp [c44, c65] at c73 ⊢; done) | (exact absurd c73 (by decide))))]; exact lv_sub hl [0, 1, 2, 4, 5, 6, 7, 8] rfl)
            · refine lv_iload hx hb d_M_part_60 (lv_at hl 0 rfl) ?_
              refine lv_iload hx hb d_M_part_62 (lv_at hl 8 rfl) ?_
              refine lv_iconst (v := 1) hx hb d_M_part_64 (by decide) ?_
              refine lv_icmp_ne (tgt := 72) hx hb d_M_part_65 (by decide) (fun c65 => ?_) (fun c65 => ?_)
              · refine lv_iconst (v := 0) hx hb d_M_part_72 (by decide) ?_
                refine lv_icmp_eq (tgt := 79) hx hb d_M_part_73 (by decide) (fun c73 => ?_) (fun c73 => ?_)
                · refine lv_lload hx hb d_M_part_79 (lv_at hl 3 rfl) ?_
                  refine lv_aload_n hx hb d_M_part_81 rfl (lv_at hl 4 rfl) ?_
                  refine x_get (ci := 7) (k := 75) hx hb ht in_M hown hw (by decide) o_M rfl 13 (by decide) (ht _ w_499) rfl d_M_part_82 ?_
                  refine lv_iload hx hb d_M_part_85 (lv_at hl 1 rfl) ?_
                  refine x_lald (k := 87) hx hb hw (by decide) rfl (vin (N := 16) (by omega) rfl (by omega)) d_M_part_87 ?_
                  rw [nI_clamp (n := t) (by omega)]
                  refine lv_ladd hx hb d_M_part_88 ?_
                  refine lv_lstore (lv' := [(5, .long ((psF u x f y z t) + (u.2.1 87 t))), (9, .int 0), (8, .int (nI t)), (7, .int (nI (pmN u x f y z t))), (0, .ref (ad 75)), (1, .int x), (2, .int (nI f)), (3, .int y), (4, .int z)]) hx hb d_M_part_89 hl (by decide) rfl (fun ls hl => ?_)
                  refine lv_iinc (v := (nI (pmN u x f y z t + 1))) (lv' := [(7, .int (nI (pmN u x f y z t + 1))), (5, .long ((psF u x f y z t) + (u.2.1 87 t))), (9, .int 0), (8, .int (nI t)), (0, .ref (ad 75)), (1, .int x), (2, .int (nI f)), (3, .int y), (4, .int z)]) hx hb d_M_part_91 hl (k := 3) rfl (nI_1 _) (by decide) rfl (fun ls hl => ?_)
                  refine lv_iinc (v := (nI (t + 1))) (lv' := [(8, .int (nI (t + 1))), (7, .int (nI (pmN u x f y z t + 1))), (5, .long ((psF u x f y z t) + (u.2.1 87 t))), (9, .int 0), (0, .ref (ad 75)), (1, .int x), (2, .int (nI f)), (3, .int y), (4, .int z)]) hx hb d_M_part_94 hl (k := 3) rfl (nI_1 _) (by decide) rfl (fun ls hl => ?_)
                  refine lv_goto (tgt := 9) hx hb d_M_part_97 (by decide) ?_
                  exact ih9 (t + 1) (by omega) (by omega) _ _ hw ls (by rw [← (show ((psF u x f y z t) + (u.2.1 87 t)) = (psF u x f y z (t + 1)) from (by simp only [psF]; first | (rw [if_neg c26]; done) | (rw [if_pos c26, if_pos c57]; done) | (rw [if_pos c26, if_neg c57]; simp [c44, c65, c73]; done) | (rw [if_pos c26, if_neg c57]; simp [c44, c65] at c73 ⊢; done) | (exact absurd c73 (by decide)))), ← (show (nI (pmN u x f y z t + 1)) = (nI (pmN u x f y z (t + 1))) from (by simp only [pmN]; first | (rw [if_neg c26]; done) | (rw [if_pos c26, if_pos c57]; done) | (rw [if_pos c26, if_neg c57]; simp [c44, c65, c73]; done) | (rw [if_pos c26, if_neg c57]; simp [c44, c65] at c73 ⊢; done) | (exact absurd c73 (by decide))))]; exact lv_sub hl [0, 1, 2, 4, 5, 6, 7, 8] rfl)
                · refine lv_goto (tgt := 94) hx hb d_M_part_76 (by decide) ?_
                  refine lv_iinc (v := (nI (t + 1))) (lv' := [(8, .int (nI (t + 1))), (9, .int 0), (7, .int (nI (pmN u x f y z t))), (5, .long (psF u x f y z t)), (0, .ref (ad 75)), (1, .int x), (2, .int (nI f)), (3, .int y), (4, .int z)]) hx hb d_M_part_94 hl (k := 1) rfl (nI_1 _) (by decide) rfl (fun ls hl => ?_)
                  refine lv_goto (tgt := 9) hx hb d_M_part_97 (by decide) ?_
                  exact ih9 (t + 1) (by omega) (by omega) _ _ hw ls (by rw [← (show (psF u x f y z t) = (psF u x f y z (t + 1)) from (by simp only [psF]; first | (rw [if_neg c26]; done) | (rw [if_pos c26, if_pos c57]; done) | (rw [if_pos c26, if_neg c57]; simp [c44, c65, c73]; done) | (rw [if_pos c26, if_neg c57]; simp [c44, c65] at c73 ⊢; done) | (exact absurd c73 (by decide)))), ← (show (nI (pmN u x f y z t)) = (nI (pmN u x f y z (t + 1))) from (by simp only [pmN]; first | (rw [if_neg c26]; done) | (rw [if_pos c26, if_pos c57]; done) | (rw [if_pos c26, if_neg c57]; simp [c44, c65, c73]; done) | (rw [if_pos c26, if_neg c57]; simp [c44, c65] at c73 ⊢; done) | (exact absurd c73 (by decide))))]; exact lv_sub hl [0, 2, 3, 4, 5, 6, 7, 8] rfl)
              · refine lv_iconst (v := 1) hx hb d_M_part_68 (by decide) ?_
                refine lv_goto (tgt := 73) hx hb d_M_part_69 (by decide) ?_
                refine lv_icmp_eq (tgt := 79) hx hb d_M_part_73 (by decide) (fun c73 => ?_) (fun c73 => ?_)
                · refine lv_lload hx hb d_M_part_79 (lv_at hl 3 rfl) ?_
                  refine lv_aload_n hx hb d_M_part_81 rfl (lv_at hl 4 rfl) ?_
                  refine x_get (ci := 7) (k := 75) hx hb ht in_M hown hw (by decide) o_M rfl 13 (by decide) (ht _ w_499) rfl d_M_part_82 ?_
                  refine lv_iload hx hb d_M_part_85 (lv_at hl 1 rfl) ?_
                  refine x_lald (k := 87) hx hb hw (by decide) rfl (vin (N := 16) (by omega) rfl (by omega)) d_M_part_87 ?_
                  rw [nI_clamp (n := t) (by omega)]
                  refine lv_ladd hx hb d_M_part_88 ?_
                  refine lv_lstore (lv' := [(5, .long ((psF u x f y z t) + (u.2.1 87 t))), (9, .int 0), (8, .int (nI t)), (7, .int (nI (pmN u x f y z t))), (0, .ref (ad 75)), (1, .int x), (2, .int (nI f)), (3, .int y), (4, .int z)]) hx hb d_M_part_89 hl (by decide) rfl (fun ls hl => ?_)
                  refine lv_iinc (v := (nI (pmN u x f y z t + 1))) (lv' := [(7, .int (nI (pmN u x f y z t + 1))), (5, .long ((psF u x f y z t) + (u.2.1 87 t))), (9, .int 0), (8, .int (nI t)), (0, .ref (ad 75)), (1, .int x), (2, .int (nI f)), (3, .int y), (4, .int z)]) hx hb d_M_part_91 hl (k := 3) rfl (nI_1 _) (by decide) rfl (fun ls hl => ?_)
                  refine lv_iinc (v := (nI (t + 1))) (lv' := [(8, .int (nI (t + 1))), (7, .int (nI (pmN u x f y z t + 1))), (5, .long ((psF u x f y z t) + (u.2.1 87 t))), (9, .int 0), (0, .ref (ad 75)), (1, .int x), (2, .int (nI f)), (3, .int y), (4, .int z)]) hx hb d_M_part_94 hl (k := 3) rfl (nI_1 _) (by decide) rfl (fun ls hl => ?_)
                  refine lv_goto (tgt := 9) hx hb d_M_part_97 (by decide) ?_
                  exact ih9 (t + 1) (by omega) (by omega) _ _ hw ls (by rw [← (show ((psF u x f y z t) + (u.2.1 87 t)) = (psF u x f y z (t + 1)) from (by simp only [psF]; first | (rw [if_neg c26]; done) | (rw [if_pos c26, if_pos c57]; done) | (rw [if_pos c26, if_neg c57]; simp [c44, c65, c73]; done) | (rw [if_pos c26, if_neg c57]; simp [c44, c65] at c73 ⊢; done) | (exact absurd c73 (by decide)))), ← (show (nI (pmN u x f y z t + 1)) = (nI (pmN u x f y z (t + 1))) from (by simp only [pmN]; first | (rw [if_neg c26]; done) | (rw [if_pos c26, if_pos c57]; done) | (rw [if_pos c26, if_neg c57]; simp [c44, c65, c73]; done) | (rw [if_pos c26, if_neg c57]; simp [c44, c65] at c73 ⊢; done) | (exact absurd c73 (by decide))))]; exact lv_sub hl [0, 1, 2, 4, 5, 6, 7, 8] rfl)
                · refine lv_goto (tgt := 94) hx hb d_M_part_76 (by decide) ?_
                  refine lv_iinc (v := (nI (t + 1))) (lv' := [(8, .int (nI (t + 1))), (9, .int 0), (7, .int (nI (pmN u x f y z t))), (5, .long (psF u x f y z t)), (0, .ref (ad 75)), (1, .int x), (2, .int (nI f)), (3, .int y), (4, .int z)]) hx hb d_M_part_94 hl (k := 1) rfl (nI_1 _) (by decide) rfl (fun ls hl => ?_)
                  refine lv_goto (tgt := 9) hx hb d_M_part_97 (by decide) ?_
                  exact ih9 (t + 1) (by omega) (by omega) _ _ hw ls (by rw [← (show (psF u x f y z t) = (psF u x f y z (t + 1)) from (by simp only [psF]; first | (rw [if_neg c26]; done) | (rw [if_pos c26, if_pos c57]; done) | (rw [if_pos c26, if_neg c57]; simp [c44, c65, c73]; done) | (rw [if_pos c26, if_neg c57]; simp [c44, c65] at c73 ⊢; done) | (exact absurd c73 (by decide)))), ← (show (nI (pmN u x f y z t)) = (nI (pmN u x f y z (t + 1))) from (by simp only [pmN]; first | (rw [if_neg c26]; done) | (rw [if_pos c26, if_pos c57]; done) | (rw [if_pos c26, if_neg c57]; simp [c44, c65, c73]; done) | (rw [if_pos c26, if_neg c57]; simp [c44, c65] at c73 ⊢; done) | (exact absurd c73 (by decide))))]; exact lv_sub hl [0, 2, 3, 4, 5, 6, 7, 8] rfl)
          · refine lv_iconst (v := 1) hx hb d_M_part_47 (by decide) ?_
            refine lv_goto (tgt := 52) hx hb d_M_part_48 (by decide) ?_
            refine lv_istore (lv' := [(9, .int 1), (8, .int (nI t)), (7, .int (nI (pmN u x f y z t))), (5, .long (psF u x f y z t)), (0, .ref (ad 75)), (1, .int x), (2, .int (nI f)), (3, .int y), (4, .int z)]) hx hb d_M_part_52 hl (by decide) rfl (fun ls hl => ?_)
            refine lv_iload hx hb d_M_part_54 (lv_at hl 8 rfl) ?_
            refine lv_iconst (v := 2) hx hb d_M_part_56 (by decide) ?_
            refine lv_icmp_ge (tgt := 79) hx hb d_M_part_57 (by decide) (fun c57 => ?_) (fun c57 => ?_)
            · refine lv_lload hx hb d_M_part_79 (lv_at hl 3 rfl) ?_
              refine lv_aload_n hx hb d_M_part_81 rfl (lv_at hl 4 rfl) ?_
              refine x_get (ci := 7) (k := 75) hx hb ht in_M hown hw (by decide) o_M rfl 13 (by decide) (ht _ w_499) rfl d_M_part_82 ?_
              refine lv_iload hx hb d_M_part_85 (lv_at hl 1 rfl) ?_
              refine x_lald (k := 87) hx hb hw (by decide) rfl (vin (N := 16) (by omega) rfl (by omega)) d_M_part_87 ?_
              rw [nI_clamp (n := t) (by omega)]
              refine lv_ladd hx hb d_M_part_88 ?_
              refine lv_lstore (lv' := [(5, .long ((psF u x f y z t) + (u.2.1 87 t))), (9, .int 1), (8, .int (nI t)), (7, .int (nI (pmN u x f y z t))), (0, .ref (ad 75)), (1, .int x), (2, .int (nI f)), (3, .int y), (4, .int z)]) hx hb d_M_part_89 hl (by decide) rfl (fun ls hl => ?_)
              refine lv_iinc (v := (nI (pmN u x f y z t + 1))) (lv' := [(7, .int (nI (pmN u x f y z t + 1))), (5, .long ((psF u x f y z t) + (u.2.1 87 t))), (9, .int 1), (8, .int (nI t)), (0, .ref (ad 75)), (1, .int x), (2, .int (nI f)), (3, .int y), (4, .int z)]) hx hb d_M_part_91 hl (k := 3) rfl (nI_1 _) (by decide) rfl (fun ls hl => ?_)
              refine lv_iinc (v := (nI (t + 1))) (lv' := [(8, .int (nI (t + 1))), (7, .int (nI (pmN u x f y z t + 1))), (5, .long ((psF u x f y z t) + (u.2.1 87 t))), (9, .int 1), (0, .ref (ad 75)), (1, .int x), (2, .int (nI f)), (3, .int y), (4, .int z)]) hx hb d_M_part_94 hl (k := 3) rfl (nI_1 _) (by decide) rfl (fun ls hl => ?_)
              refine lv_goto (tgt := 9) hx hb d_M_part_97 (by decide) ?_
              exact ih9 (t + 1) (by omega) (by omega) _ _ hw ls (by rw [← (show ((psF u x f y z t) + (u.2.1 87 t)) = (psF u x f y z (t + 1)) from (by simp only [psF]; first | (rw [if_neg c26]; done) | (rw [if_pos c26, if_pos c57]; done) | (rw [if_pos c26, if_neg c57]; simp [c44, c65, c73]; done) | (rw [if_pos c26, if_neg c57]; simp [c44, c65] at c73 ⊢; done) | (exact absurd c73 (by decide)))), ← (show (nI (pmN u x f y z t + 1)) = (nI (pmN u x f y z (t + 1))) from (by simp only [pmN]; first | (rw [if_neg c26]; done) | (rw [if_pos c26, if_pos c57]; done) | (rw [if_pos c26, if_neg c57]; simp [c44, c65, c73]; done) | (rw [if_pos c26, if_neg c57]; simp [c44, c65] at c73 ⊢; done) | (exact absurd c73 (by decide))))]; exact lv_sub hl [0, 1, 2, 4, 5, 6, 7, 8] rfl)
            · refine lv_iload hx hb d_M_part_60 (lv_at hl 0 rfl) ?_
              refine lv_iload hx hb d_M_part_62 (lv_at hl 8 rfl) ?_
              refine lv_iconst (v := 1) hx hb d_M_part_64 (by decide) ?_
              refine lv_icmp_ne (tgt := 72) hx hb d_M_part_65 (by decide) (fun c65 => ?_) (fun c65 => ?_)
              · refine lv_iconst (v := 0) hx hb d_M_part_72 (by decide) ?_
                refine lv_icmp_eq (tgt := 79) hx hb d_M_part_73 (by decide) (fun c73 => ?_) (fun c73 => ?_)
                · refine lv_lload hx hb d_M_part_79 (lv_at hl 3 rfl) ?_
                  refine lv_aload_n hx hb d_M_part_81 rfl (lv_at hl 4 rfl) ?_
                  refine x_get (ci := 7) (k := 75) hx hb ht in_M hown hw (by decide) o_M rfl 13 (by decide) (ht _ w_499) rfl d_M_part_82 ?_
                  refine lv_iload hx hb d_M_part_85 (lv_at hl 1 rfl) ?_
                  refine x_lald (k := 87) hx hb hw (by decide) rfl (vin (N := 16) (by omega) rfl (by omega)) d_M_part_87 ?_
                  rw [nI_clamp (n := t) (by omega)]
                  refine lv_ladd hx hb d_M_part_88 ?_
                  refine lv_lstore (lv' := [(5, .long ((psF u x f y z t) + (u.2.1 87 t))), (9, .int 1), (8, .int (nI t)), (7, .int (nI (pmN u x f y z t))), (0, .ref (ad 75)), (1, .int x), (2, .int (nI f)), (3, .int y), (4, .int z)]) hx hb d_M_part_89 hl (by decide) rfl (fun ls hl => ?_)
                  refine lv_iinc (v := (nI (pmN u x f y z t + 1))) (lv' := [(7, .int (nI (pmN u x f y z t + 1))), (5, .long ((psF u x f y z t) + (u.2.1 87 t))), (9, .int 1), (8, .int (nI t)), (0, .ref (ad 75)), (1, .int x), (2, .int (nI f)), (3, .int y), (4, .int z)]) hx hb d_M_part_91 hl (k := 3) rfl (nI_1 _) (by decide) rfl (fun ls hl => ?_)
                  refine lv_iinc (v := (nI (t + 1))) (lv' := [(8, .int (nI (t + 1))), (7, .int (nI (pmN u x f y z t + 1))), (5, .long ((psF u x f y z t) + (u.2.1 87 t))), (9, .int 1), (0, .ref (ad 75)), (1, .int x), (2, .int (nI f)), (3, .int y), (4, .int z)]) hx hb d_M_part_94 hl (k := 3) rfl (nI_1 _) (by decide) rfl (fun ls hl => ?_)
                  refine lv_goto (tgt := 9) hx hb d_M_part_97 (by decide) ?_
                  exact ih9 (t + 1) (by omega) (by omega) _ _ hw ls (by rw [← (show ((psF u x f y z t) + (u.2.1 87 t)) = (psF u x f y z (t + 1)) from (by simp only [psF]; first | (rw [if_neg c26]; done) | (rw [if_pos c26, if_pos c57]; done) | (rw [if_pos c26, if_neg c57]; simp [c44, c65, c73]; done) | (rw [if_pos c26, if_neg c57]; simp [c44, c65] at c73 ⊢; done) | (exact absurd c73 (by decide)))), ← (show (nI (pmN u x f y z t + 1)) = (nI (pmN u x f y z (t + 1))) from (by simp only [pmN]; first | (rw [if_neg c26]; done) | (rw [if_pos c26, if_pos c57]; done) | (rw [if_pos c26, if_neg c57]; simp [c44, c65, c73]; done) | (rw [if_pos c26, if_neg c57]; simp [c44, c65] at c73 ⊢; done) | (exact absurd c73 (by decide))))]; exact lv_sub hl [0, 1, 2, 4, 5, 6, 7, 8] rfl)
                · refine lv_goto (tgt := 94) hx hb d_M_part_76 (by decide) ?_
                  refine lv_iinc (v := (nI (t + 1))) (lv' := [(8, .int (nI (t + 1))), (9, .int 1), (7, .int (nI (pmN u x f y z t))), (5, .long (psF u x f y z t)), (0, .ref (ad 75)), (1, .int x), (2, .int (nI f)), (3, .int y), (4, .int z)]) hx hb d_M_part_94 hl (k := 1) rfl (nI_1 _) (by decide) rfl (fun ls hl => ?_)
                  refine lv_goto (tgt := 9) hx hb d_M_part_97 (by decide) ?_
                  exact ih9 (t + 1) (by omega) (by omega) _ _ hw ls (by rw [← (show (psF u x f y z t) = (psF u x f y z (t + 1)) from (by simp only [psF]; first | (rw [if_neg c26]; done) | (rw [if_pos c26, if_pos c57]; done) | (rw [if_pos c26, if_neg c57]; simp [c44, c65, c73]; done) | (rw [if_pos c26, if_neg c57]; simp [c44, c65] at c73 ⊢; done) | (exact absurd c73 (by decide)))), ← (show (nI (pmN u x f y z t)) = (nI (pmN u x f y z (t + 1))) from (by simp only [pmN]; first | (rw [if_neg c26]; done) | (rw [if_pos c26, if_pos c57]; done) | (rw [if_pos c26, if_neg c57]; simp [c44, c65, c73]; done) | (rw [if_pos c26, if_neg c57]; simp [c44, c65] at c73 ⊢; done) | (exact absurd c73 (by decide))))]; exact lv_sub hl [0, 2, 3, 4, 5, 6, 7, 8] rfl)
              · refine lv_iconst (v := 1) hx hb d_M_part_68 (by decide) ?_
                refine lv_goto (tgt := 73) hx hb d_M_part_69 (by decide) ?_
                refine lv_icmp_eq (tgt := 79) hx hb d_M_part_73 (by decide) (fun c73 => ?_) (fun c73 => ?_)
                · refine lv_lload hx hb d_M_part_79 (lv_at hl 3 rfl) ?_
                  refine lv_aload_n hx hb d_M_part_81 rfl (lv_at hl 4 rfl) ?_
                  refine x_get (ci := 7) (k := 75) hx hb ht in_M hown hw (by decide) o_M rfl 13 (by decide) (ht _ w_499) rfl d_M_part_82 ?_
                  refine lv_iload hx hb d_M_part_85 (lv_at hl 1 rfl) ?_
                  refine x_lald (k := 87) hx hb hw (by decide) rfl (vin (N := 16) (by omega) rfl (by omega)) d_M_part_87 ?_
                  rw [nI_clamp (n := t) (by omega)]
                  refine lv_ladd hx hb d_M_part_88 ?_
                  refine lv_lstore (lv' := [(5, .long ((psF u x f y z t) + (u.2.1 87 t))), (9, .int 1), (8, .int (nI t)), (7, .int (nI (pmN u x f y z t))), (0, .ref (ad 75)), (1, .int x), (2, .int (nI f)), (3, .int y), (4, .int z)]) hx hb d_M_part_89 hl (by decide) rfl (fun ls hl => ?_)
                  refine lv_iinc (v := (nI (pmN u x f y z t + 1))) (lv' := [(7, .int (nI (pmN u x f y z t + 1))), (5, .long ((psF u x f y z t) + (u.2.1 87 t))), (9, .int 1), (8, .int (nI t)), (0, .ref (ad 75)), (1, .int x), (2, .int (nI f)), (3, .int y), (4, .int z)]) hx hb d_M_part_91 hl (k := 3) rfl (nI_1 _) (by decide) rfl (fun ls hl => ?_)
                  refine lv_iinc (v := (nI (t + 1))) (lv' := [(8, .int (nI (t + 1))), (7, .int (nI (pmN u x f y z t + 1))), (5, .long ((psF u x f y z t) + (u.2.1 87 t))), (9, .int 1), (0, .ref (ad 75)), (1, .int x), (2, .int (nI f)), (3, .int y), (4, .int z)]) hx hb d_M_part_94 hl (k := 3) rfl (nI_1 _) (by decide) rfl (fun ls hl => ?_)
                  refine lv_goto (tgt := 9) hx hb d_M_part_97 (by decide) ?_
                  exact ih9 (t + 1) (by omega) (by omega) _ _ hw ls (by rw [← (show ((psF u x f y z t) + (u.2.1 87 t)) = (psF u x f y z (t + 1)) from (by simp only [psF]; first | (rw [if_neg c26]; done) | (rw [if_pos c26, if_pos c57]; done) | (rw [if_pos c26, if_neg c57]; simp [c44, c65, c73]; done) | (rw [if_pos c26, if_neg c57]; simp [c44, c65] at c73 ⊢; done) | (exact absurd c73 (by decide)))), ← (show (nI (pmN u x f y z t + 1)) = (nI (pmN u x f y z (t + 1))) from (by simp only [pmN]; first | (rw [if_neg c26]; done) | (rw [if_pos c26, if_pos c57]; done) | (rw [if_pos c26, if_neg c57]; simp [c44, c65, c73]; done) | (rw [if_pos c26, if_neg c57]; simp [c44, c65] at c73 ⊢; done) | (exact absurd c73 (by decide))))]; exact lv_sub hl [0, 1, 2, 4, 5, 6, 7, 8] rfl)
                · refine lv_goto (tgt := 94) hx hb d_M_part_76 (by decide) ?_
                  refine lv_iinc (v := (nI (t + 1))) (lv' := [(8, .int (nI (t + 1))), (9, .int 1), (7, .int (nI (pmN u x f y z t))), (5, .long (psF u x f y z t)), (0, .ref (ad 75)), (1, .int x), (2, .int (nI f)), (3, .int y), (4, .int z)]) hx hb d_M_part_94 hl (k := 1) rfl (nI_1 _) (by decide) rfl (fun ls hl => ?_)
                  refine lv_goto (tgt := 9) hx hb d_M_part_97 (by decide) ?_
                  exact ih9 (t + 1) (by omega) (by omega) _ _ hw ls (by rw [← (show (psF u x f y z t) = (psF u x f y z (t + 1)) from (by simp only [psF]; first | (rw [if_neg c26]; done) | (rw [if_pos c26, if_pos c57]; done) | (rw [if_pos c26, if_neg c57]; simp [c44, c65, c73]; done) | (rw [if_pos c26, if_neg c57]; simp [c44, c65] at c73 ⊢; done) | (exact absurd c73 (by decide)))), ← (show (nI (pmN u x f y z t)) = (nI (pmN u x f y z (t + 1))) from (by simp only [pmN]; first | (rw [if_neg c26]; done) | (rw [if_pos c26, if_pos c57]; done) | (rw [if_pos c26, if_neg c57]; simp [c44, c65, c73]; done) | (rw [if_pos c26, if_neg c57]; simp [c44, c65] at c73 ⊢; done) | (exact absurd c73 (by decide))))]; exact lv_sub hl [0, 2, 3, 4, 5, 6, 7, 8] rfl)
        · refine lv_goto (tgt := 94) hx hb d_M_part_29 (by decide) ?_
          refine lv_iinc (v := (nI (t + 1))) (lv' := [(8, .int (nI (t + 1))), (7, .int (nI (pmN u x f y z t))), (5, .long (psF u x f y z t)), (0, .ref (ad 75)), (1, .int x), (2, .int (nI f)), (3, .int y), (4, .int z)]) hx hb d_M_part_94 hl (k := 0) rfl (nI_1 _) (by decide) rfl (fun ls hl => ?_)
          refine lv_goto (tgt := 9) hx hb d_M_part_97 (by decide) ?_
          exact ih9 (t + 1) (by omega) (by omega) _ _ hw ls (by rw [← (show (psF u x f y z t) = (psF u x f y z (t + 1)) from (by simp only [psF]; first | (rw [if_neg c26]; done) | (rw [if_pos c26, if_pos c57]; done) | (rw [if_pos c26, if_neg c57]; simp [c44, c65, c73]; done) | (rw [if_pos c26, if_neg c57]; simp [c44, c65] at c73 ⊢; done) | (exact absurd c73 (by decide)))), ← (show (nI (pmN u x f y z t)) = (nI (pmN u x f y z (t + 1))) from (by simp only [pmN]; first | (rw [if_neg c26]; done) | (rw [if_pos c26, if_pos c57]; done) | (rw [if_pos c26, if_neg c57]; simp [c44, c65, c73]; done) | (rw [if_pos c26, if_neg c57]; simp [c44, c65] at c73 ⊢; done) | (exact absurd c73 (by decide))))]; exact lv_sub hl [0, 1, 2, 3, 4, 5, 6, 7] rfl)
  exact L9 ((k - 0) + 1) (0) (by omega) (by omega) _ _ hw ls (lv_sub hl [0, 1, 2, 3, 4, 5, 6, 7] rfl))
