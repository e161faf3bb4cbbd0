theorem wsF_F {u : St} {f x : Int32} {y : Int64} {a : Int32} {c : Nat} (h : c ≠ 6 ∧ c ≠ 7) : (wsF u f x y a).2.2.1 c = u.2.2.1 c := by
  unfold wsF
  repeat' split
  all_goals first | rfl | (show upd (upd _ 6 _) 7 _ c = _; unfold upd; rw [if_neg h.2, if_neg h.1]; rfl)
theorem wtF_F {u : St} {x : Int32} {f c : Nat} (h : c ≠ 6 ∧ c ≠ 7) : ∀ t, (wtF u x f t).2.2.2.2.2.1 c = u.2.2.1 c := by
  intro t
  induction t with
  | zero => rfl
  | succ t ih =>
    simp only [wtF]
    split
    · split
      · exact ih
      · rw [wsF_F h]; exact ih
    · exact ih
theorem fsF_F {u : St} {x : Int32} {k c : Nat} (h : c ≠ 6 ∧ c ≠ 7) : ∀ {f : Nat}, (fsF u x k f).2.2.1 c = u.2.2.1 c := by
  intro f
  induction f with
  | zero => show upd _ 6 _ c = _; unfold upd; rw [if_neg h.1]; rfl
  | succ f ih => simp only [fsF]; rw [wtF_F h]; exact ih
theorem suF_F {w : St} {n k c : Nat} (h : c ≠ 5) : (suF w n k).2.2.1 c = w.2.2.1 c := by
  show upd _ 5 _ c = _
  unfold upd
  rw [if_neg h]
  rfl
theorem gxS_F {w : St} {t a n k c : Nat} (h : c ≠ 5 ∧ c ≠ 6 ∧ c ≠ 7) : (gxS w t a n k).2.2.1 c = w.2.2.1 c := by
  unfold gxS
  split
  · exact suF_F h.1
  · split
    · exact suF_F h.1
    · split
      · show (fsF _ _ _ _).2.2.1 c = _; rw [fsF_F h.2]; exact suF_F h.1
      · show (sendF _ _ _ _ _).2.2.1 c = _; rw [sendF_2]; show (fsF _ _ _ _).2.2.1 c = _; rw [fsF_F h.2]; exact suF_F h.1
theorem gxF_F {u : St} {t a k c : Nat} {y : Int32} (h : c ≠ 4 ∧ c ≠ 5 ∧ c ≠ 6 ∧ c ≠ 7) : ∀ n, (gxF u t a y k n).2.2.1 c = u.2.2.1 c := by
  intro n
  induction n with
  | zero => show upd _ 4 _ c = _; unfold upd; rw [if_neg h.1]
  | succ n ih => simp only [gxF]; rw [gxS_F h.2]; exact ih
theorem gxF_ne {u : St} {t a k j : Nat} {y : Int32} (h7 : j ≠ 17) (h8 : j ≠ 63 + t) (h9 : j ≠ 67 + t) : ∀ n, (gxF u t a y k n).1 j = u.1 j := by
  intro n
  induction n with
  | zero => exact fill_ne h7
  | succ n ih => simp only [gxF]; rw [gxS_ne h7 h8 h9]; exact ih
theorem rsX_keep {w : St} {t : Nat} : ∀ i, (rsX w t i).1 = w.1 ∧ (rsX w t i).2.2 = w.2.2 := by
  intro i
  induction i with
  | zero => exact ⟨rfl, rfl⟩
  | succ i ih => exact ih
theorem growX_F {u : St} {t a k c : Nat} {y : Int32} (h : c ≠ 4 ∧ c ≠ 5 ∧ c ≠ 6 ∧ c ≠ 7) : (growX u t a y k).2.2.1 c = u.2.2.1 c := by
  unfold growX
  rw [(rsX_keep k).2, gxF_F h]
theorem growX_ne {u : St} {t a k j : Nat} {y : Int32} (h7 : j ≠ 17) (h8 : j ≠ 63 + t) (h9 : j ≠ 67 + t) : (growX u t a y k).1 j = u.1 j := by
  unfold growX
  rw [(rsX_keep k).1, gxF_ne h7 h8 h9]
def gtX (b : St) (i : Nat) (y : Int32) (k : Nat) : Nat → St
  | 0 => b
  | t + 1 => growX (fillF (sF (gtX b i y k t) 2 (nI (t + 1))) (63 + t) (-2) 7) t i y k
def tnN (u : St) (a : Nat) : Nat := if (gaA (sF u 2 0) 8).2.2.1 3 ≤ 0 then 0 else a
def tnS (u : St) (a i : Nat) (y : Int32) : St := gtX (gaA (sF u 2 0) 8) i y ((gaA (sF u 2 0) 8).2.2.1 3).toNatClampNeg (tnN u a)
def trainX (u : St) (x z y : Int32) : Int32 × St := if withinF x 4 = 0 then (-1, u) else if withinF z 2 = 0 then (-1, u) else if y < 1 then (-1, u) else if 8 < y then (-1, u) else
  (sumF (fun t => cntF (fun k => isLfF ((tnS u x.toNatClampNeg z.toNatClampNeg y).1 (63 + t) k)) 7) (tnN u x.toNatClampNeg), tnS u x.toNatClampNeg z.toNatClampNeg y)
set_option maxHeartbeats 4000000 in
set_option maxRecDepth 100000 in
theorem m_X_train {l : Launch} {D : va_G} {g : Ids} {ad : Nat → Nat} {u : St} (x : Int32) (z : Int32) (y : Int32) (hnn : ∀ d, d < 16 → ∀ t, t < 12 → 0 ≤ u.1 (22 + d) t) : XMi l D g ad y_X_train b_X_train 6 ((some .int)) (rmN 6 146) [.ref (ad 0), .int x, .int z, .int y] u (fun v r => (v, r) = trainX u x z y) := fun sz => x_met (by decide) (Nat.le_of_ble_eq_true rfl) (fun p e s m below meth c hsz hx hb hr hml hown ht hlk hw ls hl => by
  have hA : ∀ q, s.heap.size ≤ q → AX ad sz q := fun q h => Or.inr (hsz ▸ h)
  have hl : lv_has ls 6 [(0, .ref (ad 0)), (1, .int x), (2, .int z), (3, .int y)] := hl
  refine lv_iload_n hx hb d_X_train_0 rfl (lv_at hl 3 rfl) ?_
  refine lv_iconst (v := 1) hx hb d_X_train_1 (by decide) ?_
  refine lv_icmp_lt (tgt := 15) hx hb d_X_train_2 (by decide) (fun c2 => ?_) (fun c2 => ?_)
  · refine lv_iconst (v := 0) hx hb d_X_train_15 (by decide) ?_
    refine lv_istore (lv' := [(4, .int 0), (0, .ref (ad 0)), (1, .int x), (2, .int z), (3, .int y)]) hx hb d_X_train_16 hl (by decide) rfl (fun ls hl => ?_)
    refine lv_iload_n hx hb d_X_train_18 rfl (lv_at hl 2 rfl) ?_
    refine lv_iconst (v := 4) hx hb d_X_train_19 (by decide) ?_
    refine x_ci (x_runS (na := 2) (As := [.int x, .int 4]) (rest := []) ⟨hx, hb, hml, hown, ht⟩ (m_X_within x 4 _) w_176 w_177 w_1 w_178 (by decide +kernel) ⟨rfl, rfl, by decide, by decide⟩ hw rfl hl.1 rfl (Nat.le_of_ble_eq_true rfl) d_X_train_20 ⟨Nat.zero_le _, Nat.zero_le _⟩) hw hA (fun v20 u20 H locs hp hw => ?_)
    obtain ⟨hv9, hu⟩ := hp
    subst hv9
    have hu := hu.symm
    subst hu
    refine lv_if_eq (tgt := 39) hx hb d_X_train_23 (by decide) (fun c23 => ?_) (fun c23 => ?_)
    · refine lv_iconst (v := (-1)) hx hb d_X_train_39 (by decide) ?_
      exact x_iret hsz hx hb hr hlk hw (by simp [trainX, c2, c23]) d_X_train_40
    · refine lv_iload_n hx hb d_X_train_26 rfl (lv_at hl 3 rfl) ?_
      refine lv_iconst (v := 2) hx hb d_X_train_27 (by decide) ?_
      refine x_ci (x_runS (na := 2) (As := [.int z, .int 2]) (rest := []) ⟨hx, hb, hml, hown, ht⟩ (m_X_within z 2 _) w_176 w_177 w_1 w_178 (by decide +kernel) ⟨rfl, rfl, by decide, by decide⟩ hw rfl hl.1 rfl (Nat.le_of_ble_eq_true rfl) d_X_train_28 ⟨Nat.zero_le _, Nat.zero_le _⟩) hw hA (fun v28 u28 H locs hp hw => ?_)
      obtain ⟨hv9, hu⟩ := hp
      subst hv9
      have hu := hu.symm
      subst hu
      refine lv_if_eq (tgt := 39) hx hb d_X_train_31 (by decide) (fun c31 => ?_) (fun c31 => ?_)
      · refine lv_iconst (v := (-1)) hx hb d_X_train_39 (by decide) ?_
        exact x_iret hsz hx hb hr hlk hw (by simp [trainX, c2, c23, c31]) d_X_train_40
      · refine lv_iload hx hb d_X_train_34 (lv_at hl 0 rfl) ?_
        refine lv_if_ne (tgt := 41) hx hb d_X_train_36 (by decide) (fun c36 => absurd rfl c36) (fun c36 => ?_)
        refine lv_iconst (v := (-1)) hx hb d_X_train_39 (by decide) ?_
        exact x_iret hsz hx hb hr hlk hw (by simp [trainX, c2, c23, c31]) d_X_train_40
  · refine lv_iload_n hx hb d_X_train_5 rfl (lv_at hl 3 rfl) ?_
    refine lv_bipush (v := 8) hx hb d_X_train_6 (by decide) ?_
    refine lv_icmp_gt (tgt := 15) hx hb d_X_train_8 (by decide) (fun c8 => ?_) (fun c8 => ?_)
    · refine lv_iconst (v := 0) hx hb d_X_train_15 (by decide) ?_
      refine lv_istore (lv' := [(4, .int 0), (0, .ref (ad 0)), (1, .int x), (2, .int z), (3, .int y)]) hx hb d_X_train_16 hl (by decide) rfl (fun ls hl => ?_)
      refine lv_iload_n hx hb d_X_train_18 rfl (lv_at hl 2 rfl) ?_
      refine lv_iconst (v := 4) hx hb d_X_train_19 (by decide) ?_
      refine x_ci (x_runS (na := 2) (As := [.int x, .int 4]) (rest := []) ⟨hx, hb, hml, hown, ht⟩ (m_X_within x 4 _) w_176 w_177 w_1 w_178 (by decide +kernel) ⟨rfl, rfl, by decide, by decide⟩ hw rfl hl.1 rfl (Nat.le_of_ble_eq_true rfl) d_X_train_20 ⟨Nat.zero_le _, Nat.zero_le _⟩) hw hA (fun v20 u20 H locs hp hw => ?_)
      obtain ⟨hv9, hu⟩ := hp
      subst hv9
      have hu := hu.symm
      subst hu
      refine lv_if_eq (tgt := 39) hx hb d_X_train_23 (by decide) (fun c23 => ?_) (fun c23 => ?_)
      · refine lv_iconst (v := (-1)) hx hb d_X_train_39 (by decide) ?_
        exact x_iret hsz hx hb hr hlk hw (by simp [trainX, c2, c8, c23]) d_X_train_40
      · refine lv_iload_n hx hb d_X_train_26 rfl (lv_at hl 3 rfl) ?_
        refine lv_iconst (v := 2) hx hb d_X_train_27 (by decide) ?_
        refine x_ci (x_runS (na := 2) (As := [.int z, .int 2]) (rest := []) ⟨hx, hb, hml, hown, ht⟩ (m_X_within z 2 _) w_176 w_177 w_1 w_178 (by decide +kernel) ⟨rfl, rfl, by decide, by decide⟩ hw rfl hl.1 rfl (Nat.le_of_ble_eq_true rfl) d_X_train_28 ⟨Nat.zero_le _, Nat.zero_le _⟩) hw hA (fun v28 u28 H locs hp hw => ?_)
        obtain ⟨hv9, hu⟩ := hp
        subst hv9
        have hu := hu.symm
        subst hu
        refine lv_if_eq (tgt := 39) hx hb d_X_train_31 (by decide) (fun c31 => ?_) (fun c31 => ?_)
        · refine lv_iconst (v := (-1)) hx hb d_X_train_39 (by decide) ?_
          exact x_iret hsz hx hb hr hlk hw (by simp [trainX, c2, c8, c23, c31]) d_X_train_40
        · refine lv_iload hx hb d_X_train_34 (lv_at hl 0 rfl) ?_
          refine lv_if_ne (tgt := 41) hx hb d_X_train_36 (by decide) (fun c36 => absurd rfl c36) (fun c36 => ?_)
          refine lv_iconst (v := (-1)) hx hb d_X_train_39 (by decide) ?_
          exact x_iret hsz hx hb hr hlk hw (by simp [trainX, c2, c8, c23, c31]) d_X_train_40
    · refine lv_iconst (v := 1) hx hb d_X_train_11 (by decide) ?_
      refine lv_goto (tgt := 16) hx hb d_X_train_12 (by decide) ?_
      refine lv_istore (lv' := [(4, .int 1), (0, .ref (ad 0)), (1, .int x), (2, .int z), (3, .int y)]) hx hb d_X_train_16 hl (by decide) rfl (fun ls hl => ?_)
      refine lv_iload_n hx hb d_X_train_18 rfl (lv_at hl 2 rfl) ?_
      refine lv_iconst (v := 4) hx hb d_X_train_19 (by decide) ?_
      refine x_ci (x_runS (na := 2) (As := [.int x, .int 4]) (rest := []) ⟨hx, hb, hml, hown, ht⟩ (m_X_within x 4 _) w_176 w_177 w_1 w_178 (by decide +kernel) ⟨rfl, rfl, by decide, by decide⟩ hw rfl hl.1 rfl (Nat.le_of_ble_eq_true rfl) d_X_train_20 ⟨Nat.zero_le _, Nat.zero_le _⟩) hw hA (fun v20 u20 H locs hp hw => ?_)
      obtain ⟨hv9, hu⟩ := hp
      subst hv9
      have hu := hu.symm
      subst hu
      refine lv_if_eq (tgt := 39) hx hb d_X_train_23 (by decide) (fun c23 => ?_) (fun c23 => ?_)
      · refine lv_iconst (v := (-1)) hx hb d_X_train_39 (by decide) ?_
        exact x_iret hsz hx hb hr hlk hw (by simp [trainX, c2, c8, c23]) d_X_train_40
      · refine lv_iload_n hx hb d_X_train_26 rfl (lv_at hl 3 rfl) ?_
        refine lv_iconst (v := 2) hx hb d_X_train_27 (by decide) ?_
        refine x_ci (x_runS (na := 2) (As := [.int z, .int 2]) (rest := []) ⟨hx, hb, hml, hown, ht⟩ (m_X_within z 2 _) w_176 w_177 w_1 w_178 (by decide +kernel) ⟨rfl, rfl, by decide, by decide⟩ hw rfl hl.1 rfl (Nat.le_of_ble_eq_true rfl) d_X_train_28 ⟨Nat.zero_le _, Nat.zero_le _⟩) hw hA (fun v28 u28 H locs hp hw => ?_)
        obtain ⟨hv9, hu⟩ := hp
        subst hv9
        have hu := hu.symm
        subst hu
        refine lv_if_eq (tgt := 39) hx hb d_X_train_31 (by decide) (fun c31 => ?_) (fun c31 => ?_)
        · refine lv_iconst (v := (-1)) hx hb d_X_train_39 (by decide) ?_
          exact x_iret hsz hx hb hr hlk hw (by simp [trainX, c2, c8, c23, c31]) d_X_train_40
        · refine lv_iload hx hb d_X_train_34 (lv_at hl 0 rfl) ?_
          refine lv_if_ne (tgt := 41) hx hb d_X_train_36 (by decide) (fun c36 => ?_) (fun c36 => absurd c36 (by decide))
          obtain ⟨a, ha5, rfl⟩ : ∃ j : Nat, j < 5 ∧ x = nI j := vp_in_of (within_in (N := 5) c23) (by decide)
          obtain ⟨i, hi3, rfl⟩ : ∃ j : Nat, j < 3 ∧ z = nI j := vp_in_of (within_in (N := 3) c31) (by decide)
          refine lv_aload_n hx hb d_X_train_41 rfl (lv_at hl 1 rfl) ?_
          refine x_get (ci := 6) (k := 0) hx hb ht in_X hown hw (by decide) o_X rfl 3 (by decide) (ht _ w_147) rfl d_X_train_42 ?_
          refine x_cv (x_runV (na := 0) (k := 4) (As := []) (rest := []) (ci := 0) ⟨hx, hb, hml, hown, ht⟩ (m_Fo_clear _) w_236 w_237 w_238 w_5 w_239 (by decide +kernel) ⟨rfl, rfl, by decide, by decide⟩ hw (by decide) o_Fo rfl rfl hl.1 rfl (Nat.le_of_ble_eq_true rfl) d_X_train_45 ⟨Nat.zero_le _, Nat.zero_le _⟩) hw hA (fun u45 H locs hp hw => ?_)
          have hu := hp.symm
          subst hu
          refine lv_aload_n hx hb d_X_train_48 rfl (lv_at hl 1 rfl) ?_
          refine x_cv (x_runV (na := 0) (k := 0) (As := []) (rest := []) (ci := 6) ⟨hx, hb, hml, hown, ht⟩ (m_X_gatherSamples (u := (sF u 2 0)) hnn _) w_240 w_242 s_0 w_1 w_243 (by decide +kernel) ⟨rfl, rfl, by decide, by decide⟩ hw (by decide) o_X rfl rfl hl.1 rfl (Nat.le_of_ble_eq_true rfl) d_X_train_49 ⟨Nat.zero_le _, Nat.zero_le _⟩) hw hA (fun u49 H locs hp hw => ?_)
          have hu49 : u49 = gaA (sF u 2 0) 8 := hp
          obtain ⟨⟨k, hk16, hk3, hko⟩, hkc, -, hkf, -⟩ : OKX (sF u 2 0) u49 := hu49 ▸ gaA_ok (sF u 2 0) 8
          refine lv_aload_n hx hb d_X_train_52 rfl (lv_at hl 1 rfl) ?_
          refine x_get (ci := 6) (k := 0) hx hb ht in_X hown hw (by decide) o_X rfl 4 (by decide) (ht _ w_148) rfl d_X_train_53 ?_
          refine x_ci (x_runV (na := 0) (k := 5) (As := []) (rest := []) (ci := 1) ⟨hx, hb, hml, hown, ht⟩ (m_Gr_hasSamples _) w_272 w_273 w_274 w_7 w_275 (by decide +kernel) ⟨rfl, rfl, by decide, by decide⟩ hw (by decide) o_Gr rfl rfl hl.1 rfl (Nat.le_of_ble_eq_true rfl) d_X_train_56 ⟨Nat.zero_le _, Nat.zero_le _⟩) hw hA (fun v56 u56 H locs hp hw => ?_)
          obtain ⟨hv9, hu⟩ := hp
          rw [hv9]
          have hu := hu.symm
          subst hu
          refine lv_if_eq (tgt := 93) hx hb d_X_train_59 (by decide) (fun c59 => ?_) (fun c59 => ?_)
          · have hz9 : u49.2.2.1 3 ≤ 0 := ite01 c59
            refine lv_aload_n hx hb d_X_train_93 rfl (lv_at hl 1 rfl) ?_
            refine x_get (ci := 6) (k := 0) hx hb ht in_X hown hw (by decide) o_X rfl 3 (by decide) (ht _ w_147) rfl d_X_train_94 ?_
            refine x_ci (x_runV (na := 0) (k := 4) (As := []) (rest := []) (ci := 0) ⟨hx, hb, hml, hown, ht⟩ (m_Fo_leaves 0 (by omega) (by rw [hkf 2 (by decide)]; rfl) _) w_340 w_341 w_342 w_5 w_343 (by decide +kernel) ⟨rfl, rfl, by decide, by decide⟩ hw (by decide) o_Fo rfl rfl hl.1 rfl (Nat.le_of_ble_eq_true rfl) d_X_train_97 ⟨Nat.zero_le _, Nat.zero_le _⟩) hw hA (fun v97 u97 H locs hp hw => ?_)
            obtain ⟨hv9, hu⟩ := hp
            rw [hv9]
            have hu := hu.symm
            subst hu
            exact x_iret hsz hx hb hr hlk hw (by have e := nI_clamp (n := a) (by omega); have e2 := nI_clamp (n := i) (by omega); unfold trainX; rw [if_neg c23, if_neg c31, if_neg c2, if_neg c8, e, e2]; unfold tnS tnN; rw [← hu49, hk3, nI_clamp (by omega), ← hk3]; rw [if_pos hz9]; rfl) d_X_train_100
          · have hz9 : ¬ u49.2.2.1 3 ≤ 0 := fun q => c59 (by rw [if_pos q])
            refine lv_iconst (v := 0) hx hb d_X_train_62 (by decide) ?_
            refine lv_istore (lv' := [(5, .int 0), (4, .int 1), (0, .ref (ad 0)), (1, .int (nI a)), (2, .int (nI i)), (3, .int y)]) hx hb d_X_train_63 hl (by decide) rfl (fun ls hl => ?_)
            have L65 : ∀ (n65 : Nat) (t : Nat) (b : St), t ≤ a → gtX u49 i y k t = b → b.2.2.1 2 = nI t → b.2.2.1 3 = nI k → (∀ f, f < 5 → ∀ j, j < k → ∃ o : Nat, o < 16 ∧ b.1 (54 + f) j = nI o) → a - t < n65 → ∀ (H : Heap) (locs : List Loc), XH D g ad (AX ad sz) s s.heap H locs b → ∀ ls : Array Slot, lv_has ls 6 [(5, .int (nI t)), (4, .int 1), (0, .ref (ad 0)), (1, .int (nI a)), (2, .int (nI i)), (3, .int y)] → W p l e (rmN 6 146) s m ([.ref (ad 0), .int (nI a), .int (nI i), .int y] : List Value).toArray below meth c H locs 0 0 (MQ below (va_Qi (fun v r => (v, r) = trainX u (nI a) (nI i) y) (XB D g ad sz) (AX ad sz)) ([.ref (ad 0), .int (nI a), .int (nI i), .int y] : List Value).toArray s 0 0 (AX ad sz)) (F0 m 65 ls []) := by
              intro n65
              induction n65 with
              | zero => intro t b h1 hv hb2 hb3 hbo hz; exact absurd hz (by omega)
              | succ n65 ih65 =>
                intro t b h1 hv hb2 hb3 hbo hnL65 H locs hw ls hl
                refine lv_iload hx hb d_X_train_65 (lv_at hl 0 rfl) ?_
                refine lv_iload_n hx hb d_X_train_67 rfl (lv_at hl 3 rfl) ?_
                refine lv_icmp_ge (tgt := 93) hx hb d_X_train_68 (by decide) (fun c68 => ?_) (fun c68 => ?_)
                · have h68 : (a) ≤ (t) := (nI_leI (a := a) (b := t) (by omega) (by omega)).mp c68
                  refine lv_aload_n hx hb d_X_train_93 rfl (lv_at hl 2 rfl) ?_
                  refine x_get (ci := 6) (k := 0) hx hb ht in_X hown hw (by decide) o_X rfl 3 (by decide) (ht _ w_147) rfl d_X_train_94 ?_
                  refine x_ci (x_runV (na := 0) (k := 4) (As := []) (rest := []) (ci := 0) ⟨hx, hb, hml, hown, ht⟩ (m_Fo_leaves t (by omega) hb2 _) w_340 w_341 w_342 w_5 w_343 (by decide +kernel) ⟨rfl, rfl, by decide, by decide⟩ hw (by decide) o_Fo rfl rfl hl.1 rfl (Nat.le_of_ble_eq_true rfl) d_X_train_97 ⟨Nat.zero_le _, Nat.zero_le _⟩) hw hA (fun v97 u97 H locs hp hw => ?_)
                  obtain ⟨hv9, hu⟩ := hp
                  rw [hv9]
                  have hu := hu.symm
                  subst hu
                  exact x_iret hsz hx hb hr hlk hw (by have e := nI_clamp (n := a) (by omega); have e2 := nI_clamp (n := i) (by omega); unfold trainX; rw [if_neg c23, if_neg c31, if_neg c2, if_neg c8, e, e2]; unfold tnS tnN; rw [← hu49, hk3, nI_clamp (by omega), ← hk3]; rw [if_neg hz9, ← show t = a by omega, hv]) d_X_train_100
                · have h68 : ¬ (a) ≤ (t) := fun hz9 => c68 ((nI_leI (a := a) (b := t) (by omega) (by omega)).mpr hz9)
                  refine lv_aload_n hx hb d_X_train_71 rfl (lv_at hl 2 rfl) ?_
                  refine x_get (ci := 6) (k := 0) hx hb ht in_X hown hw (by decide) o_X rfl 4 (by decide) (ht _ w_148) rfl d_X_train_72 ?_
                  refine lv_aload_n hx hb d_X_train_75 rfl (lv_at hl 2 rfl) ?_
                  refine x_get (ci := 6) (k := 0) hx hb ht in_X hown hw (by decide) o_X rfl 3 (by decide) (ht _ w_147) rfl d_X_train_76 ?_
                  refine x_cr (x_runV (na := 0) (k := 4) (As := []) (rest := [.ref (ad 5)]) (ci := 0) ⟨hx, hb, hml, hown, ht⟩ (m_Fo_nextTree (u := b) t (by omega) hb2 _) w_276 w_277 w_278 w_5 w_279 (by decide +kernel) ⟨rfl, rfl, by decide, by decide⟩ hw (by decide) o_Fo rfl rfl hl.1 rfl (Nat.le_of_ble_eq_true rfl) d_X_train_79 ⟨Nat.zero_le _, Nat.zero_le _⟩) hw hA (fun u79 k79 H locs hp hw => ?_)
                  obtain ⟨hu, hkk⟩ := Prod.mk.inj hp
                  have hu := hu.symm
                  subst hu
                  subst hkk
                  refine lv_iload_n hx hb d_X_train_82 rfl (lv_at hl 4 rfl) ?_
                  refine lv_iload_n hx hb d_X_train_83 rfl (lv_at hl 5 rfl) ?_
                  refine x_cv (x_runV (na := 3) (k := 5) (As := [.ref (ad (59 + t)), .int (nI i), .int y]) (rest := []) (ci := 1) ⟨hx, hb, hml, hown, ht⟩ (m_Gr_grow (u := (fillF (sF b 2 (nI (t + 1))) (63 + t) (-2) 7)) t i y k (by omega) (by omega) hk16 hb3 (fun f hf j hj => by rw [fill_ne (by omega)]; exact hbo f hf j hj) (fun j hj => by rw [fill_in hj]; decide) _) w_288 w_289 w_290 w_7 w_291 (by decide +kernel) ⟨rfl, rfl, by decide, by decide⟩ hw (by decide) o_Gr rfl rfl hl.1 rfl (Nat.le_of_ble_eq_true rfl) d_X_train_84 ⟨Nat.zero_le _, Nat.zero_le _⟩) hw hA (fun u84 H locs hp hw => ?_)
                  have hu := hp.symm
                  subst hu
                  refine lv_iinc (v := (nI (t + 1))) (lv' := [(5, .int (nI (t + 1))), (4, .int 1), (0, .ref (ad 0)), (1, .int (nI a)), (2, .int (nI i)), (3, .int y)]) hx hb d_X_train_87 hl (k := 0) rfl (nI_1 _) (by decide) rfl (fun ls hl => ?_)
                  refine lv_goto (tgt := 65) hx hb d_X_train_90 (by decide) ?_
                  exact ih65 (t + 1) ((growX (fillF (sF b 2 (nI (t + 1))) (63 + t) (-2) 7) t i y k)) (by omega) (by rw [← hv]; rfl) (by rw [growX_F (by decide)]; rfl) (by rw [growX_F (by decide)]; exact hb3) (fun f hf j hj => by rw [growX_ne (by omega) (by omega) (by omega), fill_ne (by omega)]; exact hbo f hf j hj) (by omega) _ _ hw ls (lv_sub hl [0, 1, 2, 3, 4, 5] rfl)
            exact L65 ((a - 0) + 1) (0) (u49) (by omega) (rfl) (by rw [hkf 2 (by decide)]; rfl) (hk3) (hko) (by omega) _ _ hw ls (lv_sub hl [0, 1, 2, 3, 4, 5] rfl))
