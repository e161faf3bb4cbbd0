def liveF (u : St) (q d : Nat) : Int32 := if u.1 12 (q * 16 + d) = -1 then 0 else if holdsF u (nI d) = 0 then 0 else 1
def lrowF (u : St) (q : Nat) (a : Int32) : Nat → Int32
  | 0 => a
  | d + 1 => if liveF u q d = 0 then lrowF u q a d else lrowF u q a d + 1
def lallF (u : St) : Nat → Int32
  | 0 => 0
  | q + 1 => lrowF u q (lallF u q) 16
def featX (u : St) (q d f : Int32) : Int32 × St := if withinF q 7 = 0 then (-1, u) else if holdsF u d = 0 then (-1, u) else if withinF f 4 = 0 then (-1, u) else ((measF u d.toNatClampNeg (u.1 2 q.toNatClampNeg)).1 8 f.toNatClampNeg, measF u d.toNatClampNeg (u.1 2 q.toNatClampNeg))
/-- the reference's feature f -/
def ftM (u : St) (q d : Nat) (f : Int32) : Int32 := featF (fun i => u.1 78 (d * 12 + i)) (u.1 79 q) (u.1 77 d) f
def featM (u : St) (q d f : Int32) : Int32 × St := if inF q 8 = 0 then (-1, u) else if isThF u d = 0 then (-1, u) else if inF f 5 = 0 then (-1, u) else (featF (fun i => u.1 78 (d.toNatClampNeg * 12 + i)) (u.1 79 q.toNatClampNeg) (u.1 77 d.toNatClampNeg) f, u)
def foundF (u : St) (q d : Nat) : Int32 := if u.1 76 d = 0 then 0 else if ftM u q d 0 ≤ 0 then 0 else 1
def plainF (u : St) (q d : Nat) : Int32 := 16 * ftM u q d 1 + 4 * ftM u q d 0 - ftM u q d 2
def eqcF (f : Nat → Int32) (x : Int32) : Nat → Int32
  | 0 => 0
  | t + 1 => if f t = x then eqcF f x t + 1 else eqcF f x t
theorem meas_ne {u : St} {d k : Nat} {x : Int32} (h : k ≠ 8) : (measF u d x).1 k = u.1 k := by
  unfold measF
  rw [sI_ne h, sI_ne h, sI_ne h, sI_ne h, sI_ne h]
def npF (f : Nat → Int32) : Nat → Int32
  | 0 => 0
  | t + 1 => if f t = -1 then npF f t else npF f t + 1
def pairF (f : Nat → Int32) (i : Int32) : Nat → Nat → Int32
  | 0, _ => -1
  | n + 1, t => if f t = -1 then pairF f i n (t + 1) else if npF f t = i then nI t else pairF f i n (t + 1)
set_option maxHeartbeats 4000000 in
set_option maxRecDepth 100000 in
theorem m_X_isLive {l : Launch} {D : va_G} {g : Ids} {ad : Nat → Nat} {u : St} (q : Nat) (d : Nat) (hq : q < 8) (hd : d < 16) : XMi l D g ad y_X_isLive b_X_isLive 3 ((some .boolean)) (rmN 2 42) [.ref (ad 0), .int (nI q), .int (nI d)] u (fun v w => v = liveF u q d ∧ w = u) := fun sz => x_met (by decide) (Nat.le_of_ble_eq_true rfl) (fun p e s m below meth c hsz hx hb hr hml hown ht hlk hw ls hl => by
  have hA : ∀ q, s.heap.size ≤ q → AX ad sz q := fun q h => Or.inr (hsz ▸ h)
  have hl : lv_has ls 3 [(0, .ref (ad 0)), (1, .int (nI q)), (2, .int (nI d))] := hl
  refine lv_aload_n hx hb d_X_isLive_0 rfl (lv_at hl 0 rfl) ?_
  refine x_get (ci := 6) (k := 0) hx hb ht in_X hown hw (by decide) o_X rfl 2 (by decide) (ht _ w_146) rfl d_X_isLive_1 ?_
  refine lv_iload_n hx hb d_X_isLive_4 rfl (lv_at hl 1 rfl) ?_
  refine lv_iload_n hx hb d_X_isLive_5 rfl (lv_at hl 2 rfl) ?_
  refine x_ci (x_runV (na := 2) (k := 3) (As := [.int (nI q), .int (nI d)]) (rest := []) (ci := 2) ⟨hx, hb, hml, hown, ht⟩ (m_Ju_gradeOf q d hq hd _) w_216 w_217 w_218 w_3 w_219 (by decide +kernel) ⟨rfl, rfl, by decide, by decide⟩ hw (by decide) o_Ju rfl rfl hl.1 rfl (Nat.le_of_ble_eq_true rfl) d_X_isLive_6 ⟨Nat.zero_le _, Nat.zero_le _⟩) hw hA (fun v6 u6 H locs hp hw => ?_)
  obtain ⟨hv9, hu⟩ := hp
  subst hv9
  have hu := hu.symm
  subst hu
  refine lv_iconst (v := (-1)) hx hb d_X_isLive_9 (by decide) ?_
  refine lv_icmp_eq (tgt := 28) hx hb d_X_isLive_10 (by decide) (fun c10 => ?_) (fun c10 => ?_)
  · refine lv_iconst (v := 0) hx hb d_X_isLive_28 (by decide) ?_
    exact x_zret hsz hx hb hr hlk hw rfl ⟨by simp [liveF, c10], rfl⟩ d_X_isLive_29
  · refine lv_aload_n hx hb d_X_isLive_13 rfl (lv_at hl 0 rfl) ?_
    refine x_get (ci := 6) (k := 0) hx hb ht in_X hown hw (by decide) o_X rfl 0 (by decide) (ht _ w_144) rfl d_X_isLive_14 ?_
    refine lv_iload_n hx hb d_X_isLive_17 rfl (lv_at hl 2 rfl) ?_
    refine x_ci (x_runV (na := 1) (k := 1) (As := [.int (nI d)]) (rest := []) (ci := 4) ⟨hx, hb, hml, hown, ht⟩ (m_Sh_holds (nI d) _) w_188 w_189 w_190 w_2 w_191 (by decide +kernel) ⟨rfl, rfl, by decide, by decide⟩ hw (by decide) o_Sh rfl rfl hl.1 rfl (Nat.le_of_ble_eq_true rfl) d_X_isLive_18 ⟨Nat.zero_le _, Nat.zero_le _⟩) hw hA (fun v18 u18 H locs hp hw => ?_)
    obtain ⟨hv9, hu⟩ := hp
    subst hv9
    have hu := hu.symm
    subst hu
    refine lv_if_eq (tgt := 28) hx hb d_X_isLive_21 (by decide) (fun c21 => ?_) (fun c21 => ?_)
    · refine lv_iconst (v := 0) hx hb d_X_isLive_28 (by decide) ?_
      exact x_zret hsz hx hb hr hlk hw rfl ⟨by simp [liveF, c10, c21], rfl⟩ d_X_isLive_29
    · refine lv_iconst (v := 1) hx hb d_X_isLive_24 (by decide) ?_
      refine lv_goto (tgt := 29) hx hb d_X_isLive_25 (by decide) ?_
      exact x_zret hsz hx hb hr hlk hw rfl ⟨by simp [liveF, c10, c21], rfl⟩ d_X_isLive_29)
set_option maxHeartbeats 4000000 in
set_option maxRecDepth 100000 in
theorem m_X_liveJudgements {l : Launch} {D : va_G} {g : Ids} {ad : Nat → Nat} {u : St} : XMi l D g ad y_X_liveJudgements b_X_liveJudgements 4 ((some .int)) (rmN 3 64) [.ref (ad 0)] u (fun v w => v = lallF u 8 ∧ w = u) := fun sz => x_met (by decide) (Nat.le_of_ble_eq_true rfl) (fun p e s m below meth c hsz hx hb hr hml hown ht hlk hw ls hl => by
  have hA : ∀ q, s.heap.size ≤ q → AX ad sz q := fun q h => Or.inr (hsz ▸ h)
  have hl : lv_has ls 4 [(0, .ref (ad 0))] := hl
  refine lv_iconst (v := 0) hx hb d_X_liveJudgements_0 (by decide) ?_
  refine lv_istore_n (lv' := [(1, .int 0), (0, .ref (ad 0))]) hx hb d_X_liveJudgements_1 rfl hl (by decide) rfl (fun ls hl => ?_)
  refine lv_iconst (v := 0) hx hb d_X_liveJudgements_2 (by decide) ?_
  refine lv_istore_n (lv' := [(2, .int 0), (1, .int 0), (0, .ref (ad 0))]) hx hb d_X_liveJudgements_3 rfl hl (by decide) rfl (fun ls hl => ?_)
  have L4 : ∀ (n4 : Nat) (q : Nat), q ≤ 8 → 8 - q < n4 → ∀ (H : Heap) (locs : List Loc), XH D g ad (AX ad sz) s s.heap H locs u → ∀ ls : Array Slot, lv_has ls 4 [(2, .int (nI q)), (1, .int (lallF u q)), (0, .ref (ad 0))] → W p l e (rmN 3 64) s m ([.ref (ad 0)] : List Value).toArray below meth c H locs 0 0 (MQ below (va_Qi (fun v w => v = lallF u 8 ∧ w = u) (XB D g ad sz) (AX ad sz)) ([.ref (ad 0)] : List Value).toArray s 0 0 (AX ad sz)) (F0 m 4 ls []) := by
    intro n4
    induction n4 with
    | zero => intro q hq hz; exact absurd hz (by omega)
    | succ n4 ih4 =>
      intro q hq hnL4 H locs hw ls hl
      refine lv_iload_n hx hb d_X_liveJudgements_4 rfl (lv_at hl 0 rfl) ?_
      refine lv_bipush (v := 8) hx hb d_X_liveJudgements_5 (by decide) ?_
      refine lv_icmp_ge (tgt := 42) hx hb d_X_liveJudgements_7 (by decide) (fun c7 => ?_) (fun c7 => ?_)
      · have h7 : (8) ≤ (q) := (nI_leI (a := 8) (b := q) (by omega) (by omega)).mp c7
        refine lv_iload_n hx hb d_X_liveJudgements_42 rfl (lv_at hl 1 rfl) ?_
        exact x_iret hsz hx hb hr hlk hw ⟨by rw [show q = 8 by omega], rfl⟩ d_X_liveJudgements_43
      · have h7 : ¬ (8) ≤ (q) := fun hz9 => c7 ((nI_leI (a := 8) (b := q) (by omega) (by omega)).mpr hz9)
        refine lv_iconst (v := 0) hx hb d_X_liveJudgements_10 (by decide) ?_
        refine lv_istore_n (lv' := [(3, .int 0), (2, .int (nI q)), (1, .int (lallF u q)), (0, .ref (ad 0))]) hx hb d_X_liveJudgements_11 rfl hl (by decide) rfl (fun ls hl => ?_)
        have L12 : ∀ (n12 : Nat) (d : Nat), d ≤ 16 → 16 - d < n12 → ∀ (H : Heap) (locs : List Loc), XH D g ad (AX ad sz) s s.heap H locs u → ∀ ls : Array Slot, lv_has ls 4 [(3, .int (nI d)), (2, .int (nI q)), (1, .int (lrowF u q (lallF u q) d)), (0, .ref (ad 0))] → W p l e (rmN 3 64) s m ([.ref (ad 0)] : List Value).toArray below meth c H locs 0 0 (MQ below (va_Qi (fun v w => v = lallF u 8 ∧ w = u) (XB D g ad sz) (AX ad sz)) ([.ref (ad 0)] : List Value).toArray s 0 0 (AX ad sz)) (F0 m 12 ls []) := by
          intro n12
          induction n12 with
          | zero => intro d hd hz; exact absurd hz (by omega)
          | succ n12 ih12 =>
            intro d hd hnL12 H locs hw ls hl
            refine lv_iload_n hx hb d_X_liveJudgements_12 rfl (lv_at hl 0 rfl) ?_
            refine lv_bipush (v := 16) hx hb d_X_liveJudgements_13 (by decide) ?_
            refine lv_icmp_ge (tgt := 36) hx hb d_X_liveJudgements_15 (by decide) (fun c15 => ?_) (fun c15 => ?_)
            · have h15 : (16) ≤ (d) := (nI_leI (a := 16) (b := d) (by omega) (by omega)).mp c15
              refine lv_iinc (v := (nI (q + 1))) (lv' := [(2, .int (nI (q + 1))), (3, .int (nI d)), (1, .int (lrowF u q (lallF u q) d)), (0, .ref (ad 0))]) hx hb d_X_liveJudgements_36 hl (k := 1) rfl (nI_1 _) (by decide) rfl (fun ls hl => ?_)
              refine lv_goto (tgt := 4) hx hb d_X_liveJudgements_39 (by decide) ?_
              exact ih4 (q + 1) (by omega) (by omega) _ _ hw ls (by rw [← (show (lrowF u q (lallF u q) d) = (lallF u (q + 1)) from (by rw [show d = 16 by omega]; rfl))]; exact lv_sub hl [0, 2, 3] rfl)
            · have h15 : ¬ (16) ≤ (d) := fun hz9 => c15 ((nI_leI (a := 16) (b := d) (by omega) (by omega)).mpr hz9)
              refine lv_aload_n hx hb d_X_liveJudgements_18 rfl (lv_at hl 3 rfl) ?_
              refine lv_iload_n hx hb d_X_liveJudgements_19 rfl (lv_at hl 1 rfl) ?_
              refine lv_iload_n hx hb d_X_liveJudgements_20 rfl (lv_at hl 0 rfl) ?_
              refine x_ci (x_runV (na := 2) (k := 0) (As := [.int (nI q), .int (nI d)]) (rest := []) (ci := 6) ⟨hx, hb, hml, hown, ht⟩ (m_X_isLive q d (by omega) (by omega) _) w_248 w_250 s_1 w_1 w_251 (by decide +kernel) ⟨rfl, rfl, by decide, by decide⟩ hw (by decide) o_X rfl rfl hl.1 rfl (Nat.le_of_ble_eq_true rfl) d_X_liveJudgements_21 ⟨Nat.zero_le _, Nat.zero_le _⟩) hw hA (fun v21 u21 H locs hp hw => ?_)
              obtain ⟨hv9, hu⟩ := hp
              subst hv9
              have hu := hu.symm
              subst hu
              refine lv_if_eq (tgt := 30) hx hb d_X_liveJudgements_24 (by decide) (fun c24 => ?_) (fun c24 => ?_)
              · refine lv_iinc (v := (nI (d + 1))) (lv' := [(3, .int (nI (d + 1))), (2, .int (nI q)), (1, .int (lrowF u q (lallF u q) d)), (0, .ref (ad 0))]) hx hb d_X_liveJudgements_30 hl (k := 0) rfl (nI_1 _) (by decide) rfl (fun ls hl => ?_)
                refine lv_goto (tgt := 12) hx hb d_X_liveJudgements_33 (by decide) ?_
                exact ih12 (d + 1) (by omega) (by omega) _ _ hw ls (by rw [← (show (lrowF u q (lallF u q) d) = (lrowF u q (lallF u q) (d + 1)) from (by simp only [lrowF]; first | rw [if_pos c24] | rw [if_neg c24]))]; exact lv_sub hl [0, 1, 2, 3] rfl)
              · refine lv_iinc (v := ((lrowF u q (lallF u q) d) + 1)) (lv' := [(1, .int ((lrowF u q (lallF u q) d) + 1)), (3, .int (nI d)), (2, .int (nI q)), (0, .ref (ad 0))]) hx hb d_X_liveJudgements_27 hl (k := 2) rfl rfl (by decide) rfl (fun ls hl => ?_)
                refine lv_iinc (v := (nI (d + 1))) (lv' := [(3, .int (nI (d + 1))), (1, .int ((lrowF u q (lallF u q) d) + 1)), (2, .int (nI q)), (0, .ref (ad 0))]) hx hb d_X_liveJudgements_30 hl (k := 1) rfl (nI_1 _) (by decide) rfl (fun ls hl => ?_)
                refine lv_goto (tgt := 12) hx hb d_X_liveJudgements_33 (by decide) ?_
                exact ih12 (d + 1) (by omega) (by omega) _ _ hw ls (by rw [← (show ((lrowF u q (lallF u q) d) + 1) = (lrowF u q (lallF u q) (d + 1)) from (by simp only [lrowF]; first | rw [if_pos c24] | rw [if_neg c24]))]; exact lv_sub hl [0, 2, 1, 3] rfl)
        exact L12 ((16 - 0) + 1) (0) (by omega) (by omega) _ _ hw ls (lv_sub hl [0, 1, 2, 3] rfl)
  exact L4 ((8 - 0) + 1) (0) (by omega) (by omega) _ _ hw ls (lv_sub hl [0, 1, 2] rfl))
set_option maxHeartbeats 4000000 in
set_option maxRecDepth 100000 in
theorem m_X_feature {l : Launch} {D : va_G} {g : Ids} {ad : Nat → Nat} {u : St} (q : Int32) (d : Int32) (f : Int32) (hnn : ∀ d, d < 16 → ∀ t, t < 12 → 0 ≤ u.1 (22 + d) t) : XMi l D g ad y_X_feature b_X_feature 4 ((some .int)) (rmN 2 51) [.ref (ad 0), .int q, .int d, .int f] u (fun v w => (v, w) = featX u q d f) := fun sz => x_met (by decide) (Nat.le_of_ble_eq_true rfl) (fun p e s m below meth c hsz hx hb hr hml hown ht hlk hw ls hl => by
  have hA : ∀ q, s.heap.size ≤ q → AX ad sz q := fun q h => Or.inr (hsz ▸ h)
  have hl : lv_has ls 4 [(0, .ref (ad 0)), (1, .int q), (2, .int d), (3, .int f)] := hl
  refine lv_iload_n hx hb d_X_feature_0 rfl (lv_at hl 1 rfl) ?_
  refine x_ci (x_runS (na := 1) (As := [.int q]) (rest := []) ⟨hx, hb, hml, hown, ht⟩ (m_X_isQuery q _) w_209 w_210 w_1 w_211 (by decide +kernel) ⟨rfl, rfl, by decide, by decide⟩ hw rfl hl.1 rfl (Nat.le_of_ble_eq_true rfl) d_X_feature_1 ⟨Nat.zero_le _, Nat.zero_le _⟩) hw hA (fun v1 u1 H locs hp hw => ?_)
  obtain ⟨hv9, hu⟩ := hp
  subst hv9
  have hu := hu.symm
  subst hu
  refine lv_if_eq (tgt := 26) hx hb d_X_feature_4 (by decide) (fun c4 => ?_) (fun c4 => ?_)
  · refine lv_iconst (v := (-1)) hx hb d_X_feature_26 (by decide) ?_
    exact x_iret hsz hx hb hr hlk hw (by simp [featX, c4]) d_X_feature_27
  · refine lv_aload_n hx hb d_X_feature_7 rfl (lv_at hl 0 rfl) ?_
    refine x_get (ci := 6) (k := 0) hx hb ht in_X hown hw (by decide) o_X rfl 0 (by decide) (ht _ w_144) rfl d_X_feature_8 ?_
    refine lv_iload_n hx hb d_X_feature_11 rfl (lv_at hl 2 rfl) ?_
    refine x_ci (x_runV (na := 1) (k := 1) (As := [.int d]) (rest := []) (ci := 4) ⟨hx, hb, hml, hown, ht⟩ (m_Sh_holds d _) w_188 w_189 w_190 w_2 w_191 (by decide +kernel) ⟨rfl, rfl, by decide, by decide⟩ hw (by decide) o_Sh rfl rfl hl.1 rfl (Nat.le_of_ble_eq_true rfl) d_X_feature_12 ⟨Nat.zero_le _, Nat.zero_le _⟩) hw hA (fun v12 u12 H locs hp hw => ?_)
    obtain ⟨hv9, hu⟩ := hp
    subst hv9
    have hu := hu.symm
    subst hu
    refine lv_if_eq (tgt := 26) hx hb d_X_feature_15 (by decide) (fun c15 => ?_) (fun c15 => ?_)
    · refine lv_iconst (v := (-1)) hx hb d_X_feature_26 (by decide) ?_
      exact x_iret hsz hx hb hr hlk hw (by simp [featX, c4, c15]) d_X_feature_27
    · refine lv_iload_n hx hb d_X_feature_18 rfl (lv_at hl 3 rfl) ?_
      refine lv_iconst (v := 4) hx hb d_X_feature_19 (by decide) ?_
      refine x_ci (x_runS (na := 2) (As := [.int f, .int 4]) (rest := []) ⟨hx, hb, hml, hown, ht⟩ (m_X_within f 4 _) w_176 w_177 w_1 w_178 (by decide +kernel) ⟨rfl, rfl, by decide, by decide⟩ hw rfl hl.1 rfl (Nat.le_of_ble_eq_true rfl) d_X_feature_20 ⟨Nat.zero_le _, Nat.zero_le _⟩) hw hA (fun v20 u20 H locs hp hw => ?_)
      obtain ⟨hv9, hu⟩ := hp
      subst hv9
      have hu := hu.symm
      subst hu
      refine lv_if_ne (tgt := 28) hx hb d_X_feature_23 (by decide) (fun c23 => ?_) (fun c23 => ?_)
      · obtain ⟨i, hi, rfl⟩ : ∃ j : Nat, j < 8 ∧ q = nI j := vp_in_of (within_in (N := 8) c4) (by decide)
        obtain ⟨j, hj, rfl⟩ : ∃ j : Nat, j < 16 ∧ d = nI j := vp_in_of (holds_in c15) (by decide)
        obtain ⟨k, hk, rfl⟩ : ∃ j : Nat, j < 5 ∧ f = nI j := vp_in_of (within_in (N := 5) c23) (by decide)
        refine lv_aload_n hx hb d_X_feature_28 rfl (lv_at hl 0 rfl) ?_
        refine x_get (ci := 6) (k := 0) hx hb ht in_X hown hw (by decide) o_X rfl 0 (by decide) (ht _ w_144) rfl d_X_feature_29 ?_
        refine lv_iload_n hx hb d_X_feature_32 rfl (lv_at hl 2 rfl) ?_
        refine lv_aload_n hx hb d_X_feature_33 rfl (lv_at hl 0 rfl) ?_
        refine x_get (ci := 6) (k := 0) hx hb ht in_X hown hw (by decide) o_X rfl 1 (by decide) (ht _ w_145) rfl d_X_feature_34 ?_
        refine lv_iload_n hx hb d_X_feature_37 rfl (lv_at hl 1 rfl) ?_
        refine x_iald (k := 2) hx hb hw (by decide) rfl (vin (N := 8) (by omega) rfl (by omega)) d_X_feature_38 ?_
        rw [nI_clamp (n := i) (by omega)]
        refine lv_aload_n hx hb d_X_feature_39 rfl (lv_at hl 0 rfl) ?_
        refine x_get (ci := 6) (k := 0) hx hb ht in_X hown hw (by decide) o_X rfl 7 (by decide) (ht _ w_151) rfl d_X_feature_40 ?_
        refine x_cv (x_runV (na := 3) (k := 1) (As := [.int (nI j), .int (u.1 2 i), .ref (ad 8)]) (rest := []) (ci := 4) ⟨hx, hb, hml, hown, ht⟩ (m_Sh_measure j (u.1 2 i) hj (hnn j hj) _) w_252 w_253 w_254 w_2 w_255 (by decide +kernel) ⟨rfl, rfl, by decide, by decide⟩ hw (by decide) o_Sh rfl rfl hl.1 rfl (Nat.le_of_ble_eq_true rfl) d_X_feature_43 ⟨Nat.zero_le _, Nat.zero_le _⟩) hw hA (fun u43 H locs hp hw => ?_)
        have hu := hp.symm
        subst hu
        refine lv_aload_n hx hb d_X_feature_46 rfl (lv_at hl 0 rfl) ?_
        refine x_get (ci := 6) (k := 0) hx hb ht in_X hown hw (by decide) o_X rfl 7 (by decide) (ht _ w_151) rfl d_X_feature_47 ?_
        refine lv_iload_n hx hb d_X_feature_50 rfl (lv_at hl 3 rfl) ?_
        refine x_iald (k := 8) hx hb hw (by decide) rfl (vin (N := 5) (by omega) rfl (by omega)) d_X_feature_51 ?_
        rw [nI_clamp (n := k) (by omega)]
        exact x_iret hsz hx hb hr hlk hw (by have e := nI_clamp (n := i) (by omega); have e2 := nI_clamp (n := j) (by omega); have e3 := nI_clamp (n := k) (by omega); simp [featX, c4, c15, c23, e, e2, e3]) d_X_feature_52
      · refine lv_iconst (v := (-1)) hx hb d_X_feature_26 (by decide) ?_
        exact x_iret hsz hx hb hr hlk hw (by simp [featX, c4, c15, c23]) d_X_feature_27)
set_option maxHeartbeats 4000000 in
set_option maxRecDepth 100000 in
theorem m_M_feature {l : Launch} {D : va_G} {g : Ids} {ad : Nat → Nat} {u : St} (q : Int32) (d : Int32) (f : Int32) : XMi l D g ad y_M_feature b_M_feature 4 ((some .int)) (rmN 2 42) [.ref (ad 75), .int q, .int d, .int f] u (fun v w => (v, w) = featM u q d f) := fun sz => x_met (by decide) (Nat.le_of_ble_eq_true rfl) (fun p e s m below meth c hsz hx hb hr hml hown ht hlk hw ls hl => by
  have hA : ∀ q, s.heap.size ≤ q → AX ad sz q := fun q h => Or.inr (hsz ▸ h)
  have hl : lv_has ls 4 [(0, .ref (ad 75)), (1, .int q), (2, .int d), (3, .int f)] := hl
  refine lv_iload_n hx hb d_M_feature_0 rfl (lv_at hl 1 rfl) ?_
  refine lv_bipush (v := 8) hx hb d_M_feature_1 (by decide) ?_
  refine x_ci (x_runS (na := 2) (As := [.int q, .int 8]) (rest := []) ⟨hx, hb, hml, hown, ht⟩ (m_M_in q 8 _) w_554 w_555 w_9 w_556 (by decide +kernel) ⟨rfl, rfl, by decide, by decide⟩ hw rfl hl.1 rfl (Nat.le_of_ble_eq_true rfl) d_M_feature_3 ⟨Nat.zero_le _, Nat.zero_le _⟩) hw hA (fun v3 u3 H locs hp hw => ?_)
  obtain ⟨hv9, hu⟩ := hp
  subst hv9
  have hu := hu.symm
  subst hu
  refine lv_if_eq (tgt := 25) hx hb d_M_feature_6 (by decide) (fun c6 => ?_) (fun c6 => ?_)
  · refine lv_iconst (v := (-1)) hx hb d_M_feature_25 (by decide) ?_
    refine lv_goto (tgt := 36) hx hb d_M_feature_26 (by decide) ?_
    exact x_iret hsz hx hb hr hlk hw (by simp [featM, c6]) d_M_feature_36
  · refine lv_aload_n hx hb d_M_feature_9 rfl (lv_at hl 0 rfl) ?_
    refine lv_iload_n hx hb d_M_feature_10 rfl (lv_at hl 2 rfl) ?_
    refine x_ci (x_runV (na := 1) (k := 75) (As := [.int d]) (rest := []) (ci := 7) ⟨hx, hb, hml, hown, ht⟩ (m_M_isThere d _) w_561 w_563 s_13 w_9 w_564 (by decide +kernel) ⟨rfl, rfl, by decide, by decide⟩ hw (by decide) o_M rfl rfl hl.1 rfl (Nat.le_of_ble_eq_true rfl) d_M_feature_11 ⟨Nat.zero_le _, Nat.zero_le _⟩) hw hA (fun v11 u11 H locs hp hw => ?_)
    obtain ⟨hv9, hu⟩ := hp
    subst hv9
    have hu := hu.symm
    subst hu
    refine lv_if_eq (tgt := 25) hx hb d_M_feature_14 (by decide) (fun c14 => ?_) (fun c14 => ?_)
    · refine lv_iconst (v := (-1)) hx hb d_M_feature_25 (by decide) ?_
      refine lv_goto (tgt := 36) hx hb d_M_feature_26 (by decide) ?_
      exact x_iret hsz hx hb hr hlk hw (by simp [featM, c6, c14]) d_M_feature_36
    · refine lv_iload_n hx hb d_M_feature_17 rfl (lv_at hl 3 rfl) ?_
      refine lv_iconst (v := 5) hx hb d_M_feature_18 (by decide) ?_
      refine x_ci (x_runS (na := 2) (As := [.int f, .int 5]) (rest := []) ⟨hx, hb, hml, hown, ht⟩ (m_M_in f 5 _) w_554 w_555 w_9 w_556 (by decide +kernel) ⟨rfl, rfl, by decide, by decide⟩ hw rfl hl.1 rfl (Nat.le_of_ble_eq_true rfl) d_M_feature_19 ⟨Nat.zero_le _, Nat.zero_le _⟩) hw hA (fun v19 u19 H locs hp hw => ?_)
      obtain ⟨hv9, hu⟩ := hp
      subst hv9
      have hu := hu.symm
      subst hu
      refine lv_if_ne (tgt := 29) hx hb d_M_feature_22 (by decide) (fun c22 => ?_) (fun c22 => ?_)
      · obtain ⟨i, hi, rfl⟩ : ∃ j : Nat, j < 8 ∧ q = nI j := vp_in_of (in_in (N := 8) c6) (by decide)
        obtain ⟨j, hj, rfl⟩ : ∃ j : Nat, j < 16 ∧ d = nI j := vp_in_of (isTh_in c14) (by decide)
        refine lv_aload_n hx hb d_M_feature_29 rfl (lv_at hl 0 rfl) ?_
        refine lv_iload_n hx hb d_M_feature_30 rfl (lv_at hl 1 rfl) ?_
        refine lv_iload_n hx hb d_M_feature_31 rfl (lv_at hl 2 rfl) ?_
        refine lv_iload_n hx hb d_M_feature_32 rfl (lv_at hl 3 rfl) ?_
        refine x_ci (x_runV (na := 3) (k := 75) (As := [.int (nI i), .int (nI j), .int f]) (rest := []) (ci := 7) ⟨hx, hb, hml, hown, ht⟩ (m_M_featureOf i j f hi hj _) w_589 w_591 s_15 w_9 w_592 (by decide +kernel) ⟨rfl, rfl, by decide, by decide⟩ hw (by decide) o_M rfl rfl hl.1 rfl (Nat.le_of_ble_eq_true rfl) d_M_feature_33 ⟨Nat.zero_le _, Nat.zero_le _⟩) hw hA (fun v33 u33 H locs hp hw => ?_)
        obtain ⟨hv9, hu⟩ := hp
        subst hv9
        have hu := hu.symm
        subst hu
        exact x_iret hsz hx hb hr hlk hw (by have e := nI_clamp (n := i) (by omega); have e2 := nI_clamp (n := j) (by omega); simp [featM, c6, c14, c22, e, e2]) d_M_feature_36
      · refine lv_iconst (v := (-1)) hx hb d_M_feature_25 (by decide) ?_
        refine lv_goto (tgt := 36) hx hb d_M_feature_26 (by decide) ?_
        exact x_iret hsz hx hb hr hlk hw (by simp [featM, c6, c14, c22]) d_M_feature_36)
set_option maxHeartbeats 4000000 in
set_option maxRecDepth 100000 in
theorem m_M_found {l : Launch} {D : va_G} {g : Ids} {ad : Nat → Nat} {u : St} (q : Nat) (d : Nat) (hq : q < 8) (hd : d < 16) : XMi l D g ad y_M_found b_M_found 3 ((some .boolean)) (rmN 1 29) [.ref (ad 75), .int (nI q), .int (nI d)] u (fun v w => v = foundF u q d ∧ w = u) := fun sz => x_met (by decide) (Nat.le_of_ble_eq_true rfl) (fun p e s m below meth c hsz hx hb hr hml hown ht hlk hw ls hl => by
  have hA : ∀ q, s.heap.size ≤ q → AX ad sz q := fun q h => Or.inr (hsz ▸ h)
  have hl : lv_has ls 3 [(0, .ref (ad 75)), (1, .int (nI q)), (2, .int (nI d))] := hl
  refine lv_aload_n hx hb d_M_found_0 rfl (lv_at hl 0 rfl) ?_
  refine x_get (ci := 7) (k := 75) hx hb ht in_M hown hw (by decide) o_M rfl 0 (by decide) (ht _ w_486) rfl d_M_found_1 ?_
  refine lv_iload_n hx hb d_M_found_4 rfl (lv_at hl 2 rfl) ?_
  refine x_zald (k := 76) hx hb hw (by decide) rfl (vin (N := 16) (by omega) rfl (by omega)) d_M_found_5 ?_
  rw [nI_clamp (n := d) (by omega)]
  refine lv_if_eq (tgt := 23) hx hb d_M_found_6 (by decide) (fun c6 => ?_) (fun c6 => ?_)
  · refine lv_iconst (v := 0) hx hb d_M_found_23 (by decide) ?_
    exact x_zret hsz hx hb hr hlk hw rfl ⟨by simp [foundF, ftM, c6], rfl⟩ d_M_found_24
  · refine lv_aload_n hx hb d_M_found_9 rfl (lv_at hl 0 rfl) ?_
    refine lv_iload_n hx hb d_M_found_10 rfl (lv_at hl 1 rfl) ?_
    refine lv_iload_n hx hb d_M_found_11 rfl (lv_at hl 2 rfl) ?_
    refine lv_iconst (v := 0) hx hb d_M_found_12 (by decide) ?_
    refine x_ci (x_runV (na := 3) (k := 75) (As := [.int (nI q), .int (nI d), .int 0]) (rest := []) (ci := 7) ⟨hx, hb, hml, hown, ht⟩ (m_M_featureOf q d 0 hq hd _) w_589 w_591 s_15 w_9 w_592 (by decide +kernel) ⟨rfl, rfl, by decide, by decide⟩ hw (by decide) o_M rfl rfl hl.1 rfl (Nat.le_of_ble_eq_true rfl) d_M_found_13 ⟨Nat.zero_le _, Nat.zero_le _⟩) hw hA (fun v13 u13 H locs hp hw => ?_)
    obtain ⟨hv9, hu⟩ := hp
    subst hv9
    have hu := hu.symm
    subst hu
    refine lv_if_le (tgt := 23) hx hb d_M_found_16 (by decide) (fun c16 => ?_) (fun c16 => ?_)
    · refine lv_iconst (v := 0) hx hb d_M_found_23 (by decide) ?_
      exact x_zret hsz hx hb hr hlk hw rfl ⟨by simp [foundF, ftM, c6, c16], rfl⟩ d_M_found_24
    · refine lv_iconst (v := 1) hx hb d_M_found_19 (by decide) ?_
      refine lv_goto (tgt := 24) hx hb d_M_found_20 (by decide) ?_
      exact x_zret hsz hx hb hr hlk hw rfl ⟨by simp [foundF, ftM, c6, c16], rfl⟩ d_M_found_24)
set_option maxHeartbeats 4000000 in
set_option maxRecDepth 100000 in
theorem m_M_plain {l : Launch} {D : va_G} {g : Ids} {ad : Nat → Nat} {u : St} (q : Nat) (d : Nat) (hq : q < 8) (hd : d < 16) : XMi l D g ad y_M_plain b_M_plain 3 ((some .int)) (rmN 1 29) [.ref (ad 75), .int (nI q), .int (nI d)] u (fun v w => v = plainF u q d ∧ w = u) := fun sz => x_met (by decide) (Nat.le_of_ble_eq_true rfl) (fun p e s m below meth c hsz hx hb hr hml hown ht hlk hw ls hl => by
  have hA : ∀ q, s.heap.size ≤ q → AX ad sz q := fun q h => Or.inr (hsz ▸ h)
  have hl : lv_has ls 3 [(0, .ref (ad 75)), (1, .int (nI q)), (2, .int (nI d))] := hl
  refine lv_bipush (v := 16) hx hb d_M_plain_0 (by decide) ?_
  refine lv_aload_n hx hb d_M_plain_2 rfl (lv_at hl 0 rfl) ?_
  refine lv_iload_n hx hb d_M_plain_3 rfl (lv_at hl 1 rfl) ?_
  refine lv_iload_n hx hb d_M_plain_4 rfl (lv_at hl 2 rfl) ?_
  refine lv_iconst (v := 1) hx hb d_M_plain_5 (by decide) ?_
  refine x_ci (x_runV (na := 3) (k := 75) (As := [.int (nI q), .int (nI d), .int 1]) (rest := [.int 16]) (ci := 7) ⟨hx, hb, hml, hown, ht⟩ (m_M_featureOf q d 1 hq hd _) w_589 w_591 s_15 w_9 w_592 (by decide +kernel) ⟨rfl, rfl, by decide, by decide⟩ hw (by decide) o_M rfl rfl hl.1 rfl (Nat.le_of_ble_eq_true rfl) d_M_plain_6 ⟨Nat.zero_le _, Nat.zero_le _⟩) hw hA (fun v6 u6 H locs hp hw => ?_)
  obtain ⟨hv9, hu⟩ := hp
  subst hv9
  have hu := hu.symm
  subst hu
  refine lv_imul hx hb d_M_plain_9 ?_
  refine lv_iconst (v := 4) hx hb d_M_plain_10 (by decide) ?_
  refine lv_aload_n hx hb d_M_plain_11 rfl (lv_at hl 0 rfl) ?_
  refine lv_iload_n hx hb d_M_plain_12 rfl (lv_at hl 1 rfl) ?_
  refine lv_iload_n hx hb d_M_plain_13 rfl (lv_at hl 2 rfl) ?_
  refine lv_iconst (v := 0) hx hb d_M_plain_14 (by decide) ?_
  refine x_ci (x_runV (na := 3) (k := 75) (As := [.int (nI q), .int (nI d), .int 0]) (rest := [.int 4, .int (16 * (featF (fun i => u.1 78 (d * 12 + i)) (u.1 79 q) (u.1 77 d) 1))]) (ci := 7) ⟨hx, hb, hml, hown, ht⟩ (m_M_featureOf q d 0 hq hd _) w_589 w_591 s_15 w_9 w_592 (by decide +kernel) ⟨rfl, rfl, by decide, by decide⟩ hw (by decide) o_M rfl rfl hl.1 rfl (Nat.le_of_ble_eq_true rfl) d_M_plain_15 ⟨Nat.zero_le _, Nat.zero_le _⟩) hw hA (fun v15 u15 H locs hp hw => ?_)
  obtain ⟨hv9, hu⟩ := hp
  subst hv9
  have hu := hu.symm
  subst hu
  refine lv_imul hx hb d_M_plain_18 ?_
  refine lv_iadd hx hb d_M_plain_19 ?_
  refine lv_aload_n hx hb d_M_plain_20 rfl (lv_at hl 0 rfl) ?_
  refine lv_iload_n hx hb d_M_plain_21 rfl (lv_at hl 1 rfl) ?_
  refine lv_iload_n hx hb d_M_plain_22 rfl (lv_at hl 2 rfl) ?_
  refine lv_iconst (v := 2) hx hb d_M_plain_23 (by decide) ?_
  refine x_ci (x_runV (na := 3) (k := 75) (As := [.int (nI q), .int (nI d), .int 2]) (rest := [.int ((16 * (featF (fun i => u.1 78 (d * 12 + i)) (u.1 79 q) (u.1 77 d) 1)) + (4 * (featF (fun i => u.1 78 (d * 12 + i)) (u.1 79 q) (u.1 77 d) 0)))]) (ci := 7) ⟨hx, hb, hml, hown, ht⟩ (m_M_featureOf q d 2 hq hd _) w_589 w_591 s_15 w_9 w_592 (by decide +kernel) ⟨rfl, rfl, by decide, by decide⟩ hw (by decide) o_M rfl rfl hl.1 rfl (Nat.le_of_ble_eq_true rfl) d_M_plain_24 ⟨Nat.zero_le _, Nat.zero_le _⟩) hw hA (fun v24 u24 H locs hp hw => ?_)
  obtain ⟨hv9, hu⟩ := hp
  subst hv9
  have hu := hu.symm
  subst hu
  refine lv_isub hx hb d_M_plain_27 ?_
  exact x_iret hsz hx hb hr hlk hw ⟨rfl, rfl⟩ d_M_plain_28)
set_option maxHeartbeats 4000000 in
set_option maxRecDepth 100000 in
theorem m_M_nodes {l : Launch} {D : va_G} {g : Ids} {ad : Nat → Nat} {u : St} (x : Int32) (n : Nat) (hn4 : n ≤ 4) (hs : u.2.2.1 11 = nI n) : XMi l D g ad y_M_nodes b_M_nodes 4 ((some .int)) (rmN 0 0) [.ref (ad 75), .int x] u (fun v w => v = eqcF (u.1 81) x (n * 7) ∧ w = u) := fun sz => x_met (by decide) (Nat.le_of_ble_eq_true rfl) (fun p e s m below meth c hsz hx hb hr hml hown ht hlk hw ls hl => by
  have hA : ∀ q, s.heap.size ≤ q → AX ad sz q := fun q h => Or.inr (hsz ▸ h)
  have hl : lv_has ls 4 [(0, .ref (ad 75)), (1, .int x)] := hl
  refine lv_iconst (v := 0) hx hb d_M_nodes_0 (by decide) ?_
  refine lv_istore_n (lv' := [(2, .int 0), (0, .ref (ad 75)), (1, .int x)]) hx hb d_M_nodes_1 rfl hl (by decide) rfl (fun ls hl => ?_)
  refine lv_iconst (v := 0) hx hb d_M_nodes_2 (by decide) ?_
  refine lv_istore_n (lv' := [(3, .int 0), (2, .int 0), (0, .ref (ad 75)), (1, .int x)]) hx hb d_M_nodes_3 rfl hl (by decide) rfl (fun ls hl => ?_)
  have L4 : ∀ (n4 : Nat) (t : Nat), t ≤ n * 7 → n * 7 - t < n4 → ∀ (H : Heap) (locs : List Loc), XH D g ad (AX ad sz) s s.heap H locs u → ∀ ls : Array Slot, lv_has ls 4 [(3, .int (nI t)), (2, .int (eqcF (u.1 81) x t)), (0, .ref (ad 75)), (1, .int x)] → W p l e (rmN 0 0) s m ([.ref (ad 75), .int x] : List Value).toArray below meth c H locs 0 0 (MQ below (va_Qi (fun v w => v = eqcF (u.1 81) x (n * 7) ∧ w = u) (XB D g ad sz) (AX ad sz)) ([.ref (ad 75), .int x] : List Value).toArray s 0 0 (AX ad sz)) (F0 m 4 ls []) := by
    intro n4
    induction n4 with
    | zero => intro t h1 hz; exact absurd hz (by omega)
    | succ n4 ih4 =>
      intro t h1 hnL4 H locs hw ls hl
      refine lv_iload_n hx hb d_M_nodes_4 rfl (lv_at hl 0 rfl) ?_
      refine lv_aload_n hx hb d_M_nodes_5 rfl (lv_at hl 2 rfl) ?_
      refine x_get (ci := 7) (k := 75) hx hb ht in_M hown hw (by decide) o_M rfl 10 (by decide) (ht _ w_496) rfl d_M_nodes_6 ?_
      rw [show (u.2.2.1 11) = (nI n) from hs]
      refine lv_bipush (v := 7) hx hb d_M_nodes_9 (by decide) ?_
      refine lv_imul hx hb d_M_nodes_11 ?_
      rw [show ((nI n) * 7) = (nI (n * 7)) from pk_mul _ _]
      refine lv_icmp_ge (tgt := 34) hx hb d_M_nodes_12 (by decide) (fun c12 => ?_) (fun c12 => ?_)
      · have h12 : (n * 7) ≤ (t) := (nI_leI (a := n * 7) (b := t) (by omega) (by omega)).mp c12
        refine lv_iload_n hx hb d_M_nodes_34 rfl (lv_at hl 1 rfl) ?_
        exact x_iret hsz hx hb hr hlk hw ⟨by rw [show t = n * 7 by omega], rfl⟩ d_M_nodes_35
      · have h12 : ¬ (n * 7) ≤ (t) := fun hz9 => c12 ((nI_leI (a := n * 7) (b := t) (by omega) (by omega)).mpr hz9)
        refine lv_aload_n hx hb d_M_nodes_15 rfl (lv_at hl 2 rfl) ?_
        refine x_get (ci := 7) (k := 75) hx hb ht in_M hown hw (by decide) o_M rfl 6 (by decide) (ht _ w_492) rfl d_M_nodes_16 ?_
        refine lv_iload_n hx hb d_M_nodes_19 rfl (lv_at hl 0 rfl) ?_
        refine x_iald (k := 81) hx hb hw (by decide) rfl (vin (N := 28) (by omega) rfl (by omega)) d_M_nodes_20 ?_
        rw [nI_clamp (n := t) (by omega)]
        refine lv_iload_n hx hb d_M_nodes_21 rfl (lv_at hl 3 rfl) ?_
        refine lv_icmp_ne (tgt := 28) hx hb d_M_nodes_22 (by decide) (fun c22 => ?_) (fun c22 => ?_)
        · refine lv_iinc (v := (nI (t + 1))) (lv' := [(3, .int (nI (t + 1))), (2, .int (eqcF (u.1 81) x t)), (0, .ref (ad 75)), (1, .int x)]) hx hb d_M_nodes_28 hl (k := 0) rfl (nI_1 _) (by decide) rfl (fun ls hl => ?_)
          refine lv_goto (tgt := 4) hx hb d_M_nodes_31 (by decide) ?_
          exact ih4 (t + 1) (by omega) (by omega) _ _ hw ls (by rw [← (show (eqcF (u.1 81) x t) = (eqcF (u.1 81) x (t + 1)) from (by simp only [eqcF]; first | rw [if_pos c22] | rw [if_neg c22]))]; exact lv_sub hl [0, 1, 2, 3] rfl)
        · refine lv_iinc (v := ((eqcF (u.1 81) x t) + 1)) (lv' := [(2, .int ((eqcF (u.1 81) x t) + 1)), (3, .int (nI t)), (0, .ref (ad 75)), (1, .int x)]) hx hb d_M_nodes_25 hl (k := 1) rfl rfl (by decide) rfl (fun ls hl => ?_)
          refine lv_iinc (v := (nI (t + 1))) (lv' := [(3, .int (nI (t + 1))), (2, .int ((eqcF (u.1 81) x t) + 1)), (0, .ref (ad 75)), (1, .int x)]) hx hb d_M_nodes_28 hl (k := 1) rfl (nI_1 _) (by decide) rfl (fun ls hl => ?_)
          refine lv_goto (tgt := 4) hx hb d_M_nodes_31 (by decide) ?_
          exact ih4 (t + 1) (by omega) (by omega) _ _ hw ls (by rw [← (show ((eqcF (u.1 81) x t) + 1) = (eqcF (u.1 81) x (t + 1)) from (by simp only [eqcF]; first | rw [if_pos c22] | rw [if_neg c22]))]; exact lv_sub hl [0, 1, 2, 3] rfl)
  exact L4 ((n * 7 - 0) + 1) (0) (by omega) (by omega) _ _ hw ls (lv_sub hl [0, 1, 2, 3] rfl))
set_option maxHeartbeats 4000000 in
set_option maxRecDepth 100000 in
theorem m_X_scoreNow {l : Launch} {D : va_G} {g : Ids} {ad : Nat → Nat} {u : St} (q : Nat) (d : Nat) (n : Nat) (hq : q < 8) (hd : d < 16) (hnn : ∀ t, t < 12 → 0 ≤ u.1 (22 + d) t) (hn4 : n ≤ 4) (hs : u.2.2.1 2 = nI n) (hT : ∀ t, t < n → ∀ j, j < 7 → u.1 (63 + t) j < 5) : XMl l D g ad y_X_scoreNow b_X_scoreNow 3 ((some .long)) (rmN 3 69) [.ref (ad 0), .int (nI q), .int (nI d)] u (fun v w => v = scoreF (measF u d (u.1 2 q)) 8 n ∧ w = measF u d (u.1 2 q)) := fun sz => x_met (by decide) (Nat.le_of_ble_eq_true rfl) (fun p e s m below meth c hsz hx hb hr hml hown ht hlk hw ls hl => by
  have hA : ∀ q, s.heap.size ≤ q → AX ad sz q := fun q h => Or.inr (hsz ▸ h)
  have hl : lv_has ls 3 [(0, .ref (ad 0)), (1, .int (nI q)), (2, .int (nI d))] := hl
  refine lv_aload_n hx hb d_X_scoreNow_0 rfl (lv_at hl 0 rfl) ?_
  refine x_get (ci := 6) (k := 0) hx hb ht in_X hown hw (by decide) o_X rfl 0 (by decide) (ht _ w_144) rfl d_X_scoreNow_1 ?_
  refine lv_iload_n hx hb d_X_scoreNow_4 rfl (lv_at hl 2 rfl) ?_
  refine lv_aload_n hx hb d_X_scoreNow_5 rfl (lv_at hl 0 rfl) ?_
  refine x_get (ci := 6) (k := 0) hx hb ht in_X hown hw (by decide) o_X rfl 1 (by decide) (ht _ w_145) rfl d_X_scoreNow_6 ?_
  refine lv_iload_n hx hb d_X_scoreNow_9 rfl (lv_at hl 1 rfl) ?_
  refine x_iald (k := 2) hx hb hw (by decide) rfl (vin (N := 8) (by omega) rfl (by omega)) d_X_scoreNow_10 ?_
  rw [nI_clamp (n := q) (by omega)]
  refine lv_aload_n hx hb d_X_scoreNow_11 rfl (lv_at hl 0 rfl) ?_
  refine x_get (ci := 6) (k := 0) hx hb ht in_X hown hw (by decide) o_X rfl 7 (by decide) (ht _ w_151) rfl d_X_scoreNow_12 ?_
  refine x_cv (x_runV (na := 3) (k := 1) (As := [.int (nI d), .int (u.1 2 q), .ref (ad 8)]) (rest := []) (ci := 4) ⟨hx, hb, hml, hown, ht⟩ (m_Sh_measure d (u.1 2 q) hd hnn _) w_252 w_253 w_254 w_2 w_255 (by decide +kernel) ⟨rfl, rfl, by decide, by decide⟩ hw (by decide) o_Sh rfl rfl hl.1 rfl (Nat.le_of_ble_eq_true rfl) d_X_scoreNow_15 ⟨Nat.zero_le _, Nat.zero_le _⟩) hw hA (fun u15 H locs hp hw => ?_)
  have hu := hp.symm
  subst hu
  refine lv_aload_n hx hb d_X_scoreNow_18 rfl (lv_at hl 0 rfl) ?_
  refine x_get (ci := 6) (k := 0) hx hb ht in_X hown hw (by decide) o_X rfl 3 (by decide) (ht _ w_147) rfl d_X_scoreNow_19 ?_
  refine lv_aload_n hx hb d_X_scoreNow_22 rfl (lv_at hl 0 rfl) ?_
  refine x_get (ci := 6) (k := 0) hx hb ht in_X hown hw (by decide) o_X rfl 7 (by decide) (ht _ w_151) rfl d_X_scoreNow_23 ?_
  refine x_cl (x_runV (na := 1) (k := 4) (As := [.ref (ad 8)]) (rest := []) (ci := 0) ⟨hx, hb, hml, hown, ht⟩ (m_Fo_valueFor (u := (measF u d (u.1 2 q))) n 8 hn4 hs (by decide) rfl rfl (fun t ht9 j hj => by rw [meas_ne (by omega)]; exact hT t ht9 j hj) _) w_393 w_394 w_395 w_5 w_396 (by decide +kernel) ⟨rfl, rfl, by decide, by decide⟩ hw (by decide) o_Fo rfl rfl hl.1 rfl (Nat.le_of_ble_eq_true rfl) d_X_scoreNow_26 ⟨Nat.zero_le _, Nat.zero_le _⟩) hw hA (fun v26 u26 H locs hp hw => ?_)
  obtain ⟨hv9, hu⟩ := hp
  subst hv9
  have hu := hu.symm
  subst hu
  exact x_lret hsz hx hb hr hlk hw ⟨rfl, rfl⟩ d_X_scoreNow_29)
set_option maxHeartbeats 4000000 in
set_option maxRecDepth 100000 in
theorem m_Ju_pairOf {l : Launch} {D : va_G} {g : Ids} {ad : Nat → Nat} {u : St} (i : Int32) : XMi l D g ad y_Ju_pairOf b_Ju_pairOf 4 ((some .int)) (rmN 0 0) [.ref (ad 3), .int i] u (fun v w => v = pairF (u.1 12) i 128 0 ∧ w = u) := fun sz => x_met (by decide) (Nat.le_of_ble_eq_true rfl) (fun p e s m below meth c hsz hx hb hr hml hown ht hlk hw ls hl => by
  have hA : ∀ q, s.heap.size ≤ q → AX ad sz q := fun q h => Or.inr (hsz ▸ h)
  have hl : lv_has ls 4 [(0, .ref (ad 3)), (1, .int i)] := hl
  refine lv_iconst (v := 0) hx hb d_Ju_pairOf_0 (by decide) ?_
  refine lv_istore_n (lv' := [(2, .int 0), (0, .ref (ad 3)), (1, .int i)]) hx hb d_Ju_pairOf_1 rfl hl (by decide) rfl (fun ls hl => ?_)
  refine lv_iconst (v := 0) hx hb d_Ju_pairOf_2 (by decide) ?_
  refine lv_istore_n (lv' := [(3, .int 0), (2, .int 0), (0, .ref (ad 3)), (1, .int i)]) hx hb d_Ju_pairOf_3 rfl hl (by decide) rfl (fun ls hl => ?_)
  have L4 : ∀ (n4 : Nat) (t : Nat), t ≤ 128 → pairF (u.1 12) i (128 - t) t = pairF (u.1 12) i 128 0 → 128 - t < n4 → ∀ (H : Heap) (locs : List Loc), XH D g ad (AX ad sz) s s.heap H locs u → ∀ ls : Array Slot, lv_has ls 4 [(3, .int (nI t)), (2, .int (npF (u.1 12) t)), (0, .ref (ad 3)), (1, .int i)] → W p l e (rmN 0 0) s m ([.ref (ad 3), .int i] : List Value).toArray below meth c H locs 0 0 (MQ below (va_Qi (fun v w => v = pairF (u.1 12) i 128 0 ∧ w = u) (XB D g ad sz) (AX ad sz)) ([.ref (ad 3), .int i] : List Value).toArray s 0 0 (AX ad sz)) (F0 m 4 ls []) := by
    intro n4
    induction n4 with
    | zero => intro t h1 hv hz; exact absurd hz (by omega)
    | succ n4 ih4 =>
      intro t h1 hv hnL4 H locs hw ls hl
      refine lv_iload_n hx hb d_Ju_pairOf_4 rfl (lv_at hl 0 rfl) ?_
      refine lv_aload_n hx hb d_Ju_pairOf_5 rfl (lv_at hl 2 rfl) ?_
      refine x_get (ci := 2) (k := 3) hx hb ht in_Ju hown hw (by decide) o_Ju rfl 0 (by decide) (ht _ w_49) rfl d_Ju_pairOf_6 ?_
      refine x_alen (N := 128) (k := 12) hx hb hw (by decide) rfl rfl d_Ju_pairOf_9 ?_
      refine lv_icmp_ge (tgt := 39) hx hb d_Ju_pairOf_10 (by decide) (fun c10 => ?_) (fun c10 => ?_)
      · have h10 : (128) ≤ (t) := (nI_leI (a := 128) (b := t) (by omega) (by omega)).mp c10
        refine lv_iconst (v := (-1)) hx hb d_Ju_pairOf_39 (by decide) ?_
        exact x_iret hsz hx hb hr hlk hw ⟨by rw [← hv, show 128 - t = 0 by omega]; rfl, rfl⟩ d_Ju_pairOf_40
      · have h10 : ¬ (128) ≤ (t) := fun hz9 => c10 ((nI_leI (a := 128) (b := t) (by omega) (by omega)).mpr hz9)
        refine lv_aload_n hx hb d_Ju_pairOf_13 rfl (lv_at hl 2 rfl) ?_
        refine x_get (ci := 2) (k := 3) hx hb ht in_Ju hown hw (by decide) o_Ju rfl 0 (by decide) (ht _ w_49) rfl d_Ju_pairOf_14 ?_
        refine lv_iload_n hx hb d_Ju_pairOf_17 rfl (lv_at hl 0 rfl) ?_
        refine x_iald (k := 12) hx hb hw (by decide) rfl (vin (N := 128) (by omega) rfl (by omega)) d_Ju_pairOf_18 ?_
        rw [nI_clamp (n := t) (by omega)]
        refine lv_iconst (v := (-1)) hx hb d_Ju_pairOf_19 (by decide) ?_
        refine lv_icmp_eq (tgt := 33) hx hb d_Ju_pairOf_20 (by decide) (fun c20 => ?_) (fun c20 => ?_)
        · refine lv_iinc (v := (nI (t + 1))) (lv' := [(3, .int (nI (t + 1))), (2, .int (npF (u.1 12) t)), (0, .ref (ad 3)), (1, .int i)]) hx hb d_Ju_pairOf_33 hl (k := 0) rfl (nI_1 _) (by decide) rfl (fun ls hl => ?_)
          refine lv_goto (tgt := 4) hx hb d_Ju_pairOf_36 (by decide) ?_
          exact ih4 (t + 1) (by omega) (by rw [← hv, show 128 - t = 128 - (t + 1) + 1 by omega]; simp only [pairF]; first | (rw [if_pos c20]; done) | (rw [if_neg c20, if_neg c25]; done)) (by omega) _ _ hw ls (by rw [← (show (npF (u.1 12) t) = (npF (u.1 12) (t + 1)) from (by simp only [npF]; first | rw [if_pos c20] | rw [if_neg c20]))]; exact lv_sub hl [0, 1, 2, 3] rfl)
        · refine lv_iload_n hx hb d_Ju_pairOf_23 rfl (lv_at hl 1 rfl) ?_
          refine lv_iload_n hx hb d_Ju_pairOf_24 rfl (lv_at hl 3 rfl) ?_
          refine lv_icmp_ne (tgt := 30) hx hb d_Ju_pairOf_25 (by decide) (fun c25 => ?_) (fun c25 => ?_)
          · refine lv_iinc (v := ((npF (u.1 12) t) + 1)) (lv' := [(2, .int ((npF (u.1 12) t) + 1)), (3, .int (nI t)), (0, .ref (ad 3)), (1, .int i)]) hx hb d_Ju_pairOf_30 hl (k := 1) rfl rfl (by decide) rfl (fun ls hl => ?_)
            refine lv_iinc (v := (nI (t + 1))) (lv' := [(3, .int (nI (t + 1))), (2, .int ((npF (u.1 12) t) + 1)), (0, .ref (ad 3)), (1, .int i)]) hx hb d_Ju_pairOf_33 hl (k := 1) rfl (nI_1 _) (by decide) rfl (fun ls hl => ?_)
            refine lv_goto (tgt := 4) hx hb d_Ju_pairOf_36 (by decide) ?_
            exact ih4 (t + 1) (by omega) (by rw [← hv, show 128 - t = 128 - (t + 1) + 1 by omega]; simp only [pairF]; first | (rw [if_pos c20]; done) | (rw [if_neg c20, if_neg c25]; done)) (by omega) _ _ hw ls (by rw [← (show ((npF (u.1 12) t) + 1) = (npF (u.1 12) (t + 1)) from (by simp only [npF]; first | rw [if_pos c20] | rw [if_neg c20]))]; exact lv_sub hl [0, 1, 2, 3] rfl)
          · refine lv_iload_n hx hb d_Ju_pairOf_28 rfl (lv_at hl 0 rfl) ?_
            exact x_iret hsz hx hb hr hlk hw ⟨by rw [← hv, show 128 - t = 128 - (t + 1) + 1 by omega]; simp only [pairF]; rw [if_neg c20, if_pos c25], rfl⟩ d_Ju_pairOf_29
  exact L4 ((128 - 0) + 1) (0) (by omega) (rfl) (by omega) _ _ hw ls (lv_sub hl [0, 1, 2, 3] rfl))
