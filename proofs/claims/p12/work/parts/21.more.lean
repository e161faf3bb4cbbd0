theorem within_ix {x : Int32} {n : Nat} (hn9 : n ≤ 4) (h : ¬ withinF x (nI n - 1) = 0) : ∃ j : Nat, j < n ∧ x = nI j := by
  unfold withinF at h
  split at h
  · exact absurd rfl h
  · rename_i h1
    split at h
    · exact absurd rfl h
    · rename_i h2
      obtain ⟨j, hj, rfl⟩ := nI_of h1
      refine ⟨j, ?_, rfl⟩
      rcases Nat.lt_or_ge j n with q | q
      · exact q
      · have hn0 : n < 2 ^ 31 := by omega
        exact absurd (show nI n - 1 < nI j from by
          rw [Int32.lt_iff_toInt_lt]
          have e := pk_sub_toInt (a := n) (b := 1) (by omega) (by omega)
          rw [show (nI n - 1) = nI n - nI 1 from rfl, e, nI_toInt hj]
          omega) h2
def scoX (u : St) (q d : Int32) (n : Nat) : Int64 × St := if withinF q 7 = 0 then (-1000000000000000, u) else if holdsF u d = 0 then (-1000000000000000, u) else (scoreF (measF u d.toNatClampNeg (u.1 2 q.toNatClampNeg)) 8 n, measF u d.toNatClampNeg (u.1 2 q.toNatClampNeg))
def nodX (u : St) (x y z : Int32) (n : Nat) : Int64 × St := if withinF x (nI n - 1) = 0 then (-1000000000000000, u) else if withinF y 6 = 0 then (-1000000000000000, u) else
  if isAbF (u.1 (63 + x.toNatClampNeg) y.toNatClampNeg) = 0 then (if z = 0 then ((u.1 (63 + x.toNatClampNeg) y.toNatClampNeg).toInt64, u) else if z = 1 then ((u.1 (67 + x.toNatClampNeg) y.toNatClampNeg).toInt64, u) else if z = 2 then
    (if isLfF (u.1 (63 + x.toNatClampNeg) y.toNatClampNeg) = 0 then (-1000000000000000, u) else (u.2.1 (71 + x.toNatClampNeg) y.toNatClampNeg, u)) else (-1000000000000000, u)) else (-1000000000000000, u)
set_option maxHeartbeats 4000000 in
set_option maxRecDepth 100000 in
theorem m_X_score {l : Launch} {D : va_G} {g : Ids} {ad : Nat → Nat} {u : St} (q : Int32) (d : Int32) (n : Nat) (hnn : ∀ d, d < 16 → ∀ t, t < 12 → 0 ≤ u.1 (22 + d) t) (hn4 : n ≤ 4) (hs : u.2.2.1 2 = nI n) (hT : ∀ t, t < n → ∀ j, j < 7 → u.1 (63 + t) j < 5) : XMl l D g ad y_X_score b_X_score 3 ((some .long)) (rmN 4 91) [.ref (ad 0), .int q, .int d] u (fun v w => (v, w) = scoX u q d n) := fun sz => x_met (by decide) (Nat.le_of_ble_eq_true rfl) (fun p e s m below meth c hsz hx hb hr hml hown ht hlk hw ls hl => by
  have hA : ∀ q, s.heap.size ≤ q → AX ad sz q := fun q h => Or.inr (hsz ▸ h)
  have hl : lv_has ls 3 [(0, .ref (ad 0)), (1, .int q), (2, .int d)] := hl
  refine lv_iload_n hx hb d_X_score_0 rfl (lv_at hl 1 rfl) ?_
  refine x_ci (x_runS (na := 1) (As := [.int q]) (rest := []) ⟨hx, hb, hml, hown, ht⟩ (m_X_isQuery q _) w_209 w_210 w_1 w_211 (by decide +kernel) ⟨rfl, rfl, by decide, by decide⟩ hw rfl hl.1 rfl (Nat.le_of_ble_eq_true rfl) d_X_score_1 ⟨Nat.zero_le _, Nat.zero_le _⟩) hw hA (fun v1 u1 H locs hp hw => ?_)
  obtain ⟨hv9, hu⟩ := hp
  subst hv9
  have hu := hu.symm
  subst hu
  refine lv_if_eq (tgt := 18) hx hb d_X_score_4 (by decide) (fun c4 => ?_) (fun c4 => ?_)
  · refine lv_ldc2 (v := (-1000000000000000)) hx hb hown (ht _ w_402) d_X_score_18 ?_
    exact x_lret hsz hx hb hr hlk hw (by simp [scoX, c4]) d_X_score_21
  · refine lv_aload_n hx hb d_X_score_7 rfl (lv_at hl 0 rfl) ?_
    refine x_get (ci := 6) (k := 0) hx hb ht in_X hown hw (by decide) o_X rfl 0 (by decide) (ht _ w_144) rfl d_X_score_8 ?_
    refine lv_iload_n hx hb d_X_score_11 rfl (lv_at hl 2 rfl) ?_
    refine x_ci (x_runV (na := 1) (k := 1) (As := [.int d]) (rest := []) (ci := 4) ⟨hx, hb, hml, hown, ht⟩ (m_Sh_holds d _) w_188 w_189 w_190 w_2 w_191 (by decide +kernel) ⟨rfl, rfl, by decide, by decide⟩ hw (by decide) o_Sh rfl rfl hl.1 rfl (Nat.le_of_ble_eq_true rfl) d_X_score_12 ⟨Nat.zero_le _, Nat.zero_le _⟩) hw hA (fun v12 u12 H locs hp hw => ?_)
    obtain ⟨hv9, hu⟩ := hp
    subst hv9
    have hu := hu.symm
    subst hu
    refine lv_if_ne (tgt := 22) hx hb d_X_score_15 (by decide) (fun c15 => ?_) (fun c15 => ?_)
    · obtain ⟨i, hi, rfl⟩ : ∃ j : Nat, j < 8 ∧ q = nI j := vp_in_of (within_in (N := 8) c4) (by decide)
      obtain ⟨j, hj, rfl⟩ : ∃ j : Nat, j < 16 ∧ d = nI j := vp_in_of (holds_in c15) (by decide)
      refine lv_aload_n hx hb d_X_score_22 rfl (lv_at hl 0 rfl) ?_
      refine lv_iload_n hx hb d_X_score_23 rfl (lv_at hl 1 rfl) ?_
      refine lv_iload_n hx hb d_X_score_24 rfl (lv_at hl 2 rfl) ?_
      refine x_cl (x_runV (na := 2) (k := 0) (As := [.int (nI i), .int (nI j)]) (rest := []) (ci := 6) ⟨hx, hb, hml, hown, ht⟩ (m_X_scoreNow i j n hi hj (hnn j hj) hn4 hs hT _) w_389 w_391 s_11 w_1 w_392 (by decide +kernel) ⟨rfl, rfl, by decide, by decide⟩ hw (by decide) o_X rfl rfl hl.1 rfl (Nat.le_of_ble_eq_true rfl) d_X_score_25 ⟨Nat.zero_le _, Nat.zero_le _⟩) hw hA (fun v25 u25 H locs hp hw => ?_)
      obtain ⟨rfl, hu⟩ := hp
      have hu := hu.symm
      subst hu
      exact x_lret hsz hx hb hr hlk hw (by have e := nI_clamp (n := i) (by omega); have e2 := nI_clamp (n := j) (by omega); simp [scoX, c4, c15, e, e2]) d_X_score_28
    · refine lv_ldc2 (v := (-1000000000000000)) hx hb hown (ht _ w_402) d_X_score_18 ?_
      exact x_lret hsz hx hb hr hlk hw (by simp [scoX, c4, c15]) d_X_score_21)
set_option maxHeartbeats 4000000 in
set_option maxRecDepth 100000 in
theorem m_X_node {l : Launch} {D : va_G} {g : Ids} {ad : Nat → Nat} {u : St} (x : Int32) (y : Int32) (z : Int32) (n : Nat) (hn4 : n ≤ 4) (hs : u.2.2.1 2 = nI n) : XMl l D g ad y_X_node b_X_node 5 ((some .long)) (rmN 1 21) [.ref (ad 0), .int x, .int y, .int z] u (fun v w => (v, w) = nodX u x y z n) := fun sz => x_met (by decide) (Nat.le_of_ble_eq_true rfl) (fun p e s m below meth c hsz hx hb hr hml hown ht hlk hw ls hl => by
  have hA : ∀ q, s.heap.size ≤ q → AX ad sz q := fun q h => Or.inr (hsz ▸ h)
  have hl : lv_has ls 5 [(0, .ref (ad 0)), (1, .int x), (2, .int y), (3, .int z)] := hl
  refine lv_iload_n hx hb d_X_node_0 rfl (lv_at hl 1 rfl) ?_
  refine lv_aload_n hx hb d_X_node_1 rfl (lv_at hl 0 rfl) ?_
  refine x_get (ci := 6) (k := 0) hx hb ht in_X hown hw (by decide) o_X rfl 3 (by decide) (ht _ w_147) rfl d_X_node_2 ?_
  refine x_ci (x_runV (na := 0) (k := 4) (As := []) (rest := [.int x]) (ci := 0) ⟨hx, hb, hml, hown, ht⟩ (m_Fo_size _) w_421 w_422 w_423 w_5 w_424 (by decide +kernel) ⟨rfl, rfl, by decide, by decide⟩ hw (by decide) o_Fo rfl rfl hl.1 rfl (Nat.le_of_ble_eq_true rfl) d_X_node_5 ⟨Nat.zero_le _, Nat.zero_le _⟩) hw hA (fun v5 u5 H locs hp hw => ?_)
  obtain ⟨hv9, hu⟩ := hp
  subst hv9
  have hu := hu.symm
  subst hu
  rw [show (u.2.2.1 2) = (nI n) from hs]
  refine lv_iconst (v := 1) hx hb d_X_node_8 (by decide) ?_
  refine lv_isub hx hb d_X_node_9 ?_
  refine x_ci (x_runS (na := 2) (As := [.int x, .int ((nI n) - 1)]) (rest := []) ⟨hx, hb, hml, hown, ht⟩ (m_X_within x ((nI n) - 1) _) w_176 w_177 w_1 w_178 (by decide +kernel) ⟨rfl, rfl, by decide, by decide⟩ hw rfl hl.1 rfl (Nat.le_of_ble_eq_true rfl) d_X_node_10 ⟨Nat.zero_le _, Nat.zero_le _⟩) hw hA (fun v10 u10 H locs hp hw => ?_)
  obtain ⟨hv9, hu⟩ := hp
  subst hv9
  have hu := hu.symm
  subst hu
  refine lv_if_eq (tgt := 25) hx hb d_X_node_13 (by decide) (fun c13 => ?_) (fun c13 => ?_)
  · refine lv_ldc2 (v := (-1000000000000000)) hx hb hown (ht _ w_402) d_X_node_25 ?_
    exact x_lret hsz hx hb hr hlk hw (by simp [nodX, c13]) d_X_node_28
  · refine lv_iload_n hx hb d_X_node_16 rfl (lv_at hl 2 rfl) ?_
    refine lv_bipush (v := 6) hx hb d_X_node_17 (by decide) ?_
    refine x_ci (x_runS (na := 2) (As := [.int y, .int 6]) (rest := []) ⟨hx, hb, hml, hown, ht⟩ (m_X_within y 6 _) w_176 w_177 w_1 w_178 (by decide +kernel) ⟨rfl, rfl, by decide, by decide⟩ hw rfl hl.1 rfl (Nat.le_of_ble_eq_true rfl) d_X_node_19 ⟨Nat.zero_le _, Nat.zero_le _⟩) hw hA (fun v19 u19 H locs hp hw => ?_)
    obtain ⟨hv9, hu⟩ := hp
    subst hv9
    have hu := hu.symm
    subst hu
    refine lv_if_ne (tgt := 29) hx hb d_X_node_22 (by decide) (fun c22 => ?_) (fun c22 => ?_)
    · obtain ⟨i, hi, rfl⟩ : ∃ j : Nat, j < n ∧ x = nI j := within_ix hn4 c13
      have hi4 : i < 4 := by omega
      obtain ⟨j, hj, rfl⟩ : ∃ j : Nat, j < 7 ∧ y = nI j := vp_in_of (within_in (N := 7) c22) (by decide)
      refine lv_aload_n hx hb d_X_node_29 rfl (lv_at hl 0 rfl) ?_
      refine x_get (ci := 6) (k := 0) hx hb ht in_X hown hw (by decide) o_X rfl 3 (by decide) (ht _ w_147) rfl d_X_node_30 ?_
      refine lv_iload_n hx hb d_X_node_33 rfl (lv_at hl 1 rfl) ?_
      refine x_cr (x_runV (na := 1) (k := 4) (As := [.int (nI i)]) (rest := []) (ci := 0) ⟨hx, hb, hml, hown, ht⟩ (m_Fo_treeAt i hi4 _) w_425 w_426 w_427 w_5 w_428 (by decide +kernel) ⟨rfl, rfl, by decide, by decide⟩ hw (by decide) o_Fo rfl rfl hl.1 rfl (Nat.le_of_ble_eq_true rfl) d_X_node_34 ⟨Nat.zero_le _, Nat.zero_le _⟩) hw hA (fun u34 k34 H locs hp hw => ?_)
      obtain ⟨hu, hkk⟩ := Prod.mk.inj hp
      have hu := hu.symm
      subst hu
      subst hkk
      refine lv_astore (lv' := [(4, .ref (ad (59 + i))), (0, .ref (ad 0)), (1, .int (nI i)), (2, .int (nI j)), (3, .int z)]) hx hb d_X_node_37 hl (by decide) rfl (fun ls hl => ?_)
      refine lv_aload hx hb d_X_node_39 (lv_at hl 0 rfl) ?_
      refine lv_iload_n hx hb d_X_node_41 rfl (lv_at hl 3 rfl) ?_
      refine x_ci (x_runV (na := 1) (k := 59 + i) (As := [.int (nI j)]) (rest := []) (ci := 5) ⟨hx, hb, hml, hown, ht⟩ (m_Tr_isAbsent i j hi4 hj _) w_429 w_430 w_431 w_6 w_432 (by decide +kernel) ⟨rfl, rfl, by decide, by decide⟩ hw (by omega) (o_Tr (by omega)) rfl rfl hl.1 rfl (Nat.le_of_ble_eq_true rfl) d_X_node_42 ⟨Nat.zero_le _, Nat.zero_le _⟩) hw hA (fun v42 u42 H locs hp hw => ?_)
      obtain ⟨hv9, hu⟩ := hp
      subst hv9
      have hu := hu.symm
      subst hu
      refine lv_if_eq (tgt := 52) hx hb d_X_node_45 (by decide) (fun c45 => ?_) (fun c45 => ?_)
      · refine lv_iload_n hx hb d_X_node_52 rfl (lv_at hl 4 rfl) ?_
        by_cases s53_0 : z = 0
        · subst s53_0
          refine lv_tableIn (tgt := 80) hx hb d_X_node_53 (by decide) (by decide) rfl (by decide) ?_
          refine lv_aload hx hb d_X_node_80 (lv_at hl 0 rfl) ?_
          refine lv_iload_n hx hb d_X_node_82 rfl (lv_at hl 3 rfl) ?_
          refine x_ci (x_runV (na := 1) (k := 59 + i) (As := [.int (nI j)]) (rest := []) (ci := 5) ⟨hx, hb, hml, hown, ht⟩ (m_Tr_featureAt i j hi4 hj _) w_433 w_434 w_435 w_6 w_436 (by decide +kernel) ⟨rfl, rfl, by decide, by decide⟩ hw (by omega) (o_Tr (by omega)) rfl rfl hl.1 rfl (Nat.le_of_ble_eq_true rfl) d_X_node_83 ⟨Nat.zero_le _, Nat.zero_le _⟩) hw hA (fun v83 u83 H locs hp hw => ?_)
          obtain ⟨hv9, hu⟩ := hp
          subst hv9
          have hu := hu.symm
          subst hu
          refine lv_i2l (v := (u.1 (63 + i) j).toInt64) hx hb d_X_node_86 rfl ?_
          exact x_lret hsz hx hb hr hlk hw (by have e := nI_clamp (n := i) (by omega); have e2 := nI_clamp (n := j) (by omega); simp [nodX, c13, c22, c45, e, e2]) d_X_node_87
        by_cases s53_1 : z = 1
        · subst s53_1
          refine lv_tableIn (tgt := 88) hx hb d_X_node_53 (by decide) (by decide) rfl (by decide) ?_
          refine lv_aload hx hb d_X_node_88 (lv_at hl 0 rfl) ?_
          refine lv_iload_n hx hb d_X_node_90 rfl (lv_at hl 3 rfl) ?_
          refine x_ci (x_runV (na := 1) (k := 59 + i) (As := [.int (nI j)]) (rest := []) (ci := 5) ⟨hx, hb, hml, hown, ht⟩ (m_Tr_thresholdAt i j hi4 hj _) w_437 w_438 w_439 w_6 w_440 (by decide +kernel) ⟨rfl, rfl, by decide, by decide⟩ hw (by omega) (o_Tr (by omega)) rfl rfl hl.1 rfl (Nat.le_of_ble_eq_true rfl) d_X_node_91 ⟨Nat.zero_le _, Nat.zero_le _⟩) hw hA (fun v91 u91 H locs hp hw => ?_)
          obtain ⟨hv9, hu⟩ := hp
          subst hv9
          have hu := hu.symm
          subst hu
          refine lv_i2l (v := (u.1 (67 + i) j).toInt64) hx hb d_X_node_94 rfl ?_
          exact x_lret hsz hx hb hr hlk hw (by have e := nI_clamp (n := i) (by omega); have e2 := nI_clamp (n := j) (by omega); simp [nodX, c13, c22, c45, e, e2]) d_X_node_95
        by_cases s53_2 : z = 2
        · subst s53_2
          refine lv_tableIn (tgt := 96) hx hb d_X_node_53 (by decide) (by decide) rfl (by decide) ?_
          refine lv_aload hx hb d_X_node_96 (lv_at hl 0 rfl) ?_
          refine lv_iload_n hx hb d_X_node_98 rfl (lv_at hl 3 rfl) ?_
          refine x_ci (x_runV (na := 1) (k := 59 + i) (As := [.int (nI j)]) (rest := []) (ci := 5) ⟨hx, hb, hml, hown, ht⟩ (m_Tr_isLeaf i j hi4 hj _) w_441 w_349 w_350 w_6 w_351 (by decide +kernel) ⟨rfl, rfl, by decide, by decide⟩ hw (by omega) (o_Tr (by omega)) rfl rfl hl.1 rfl (Nat.le_of_ble_eq_true rfl) d_X_node_99 ⟨Nat.zero_le _, Nat.zero_le _⟩) hw hA (fun v99 u99 H locs hp hw => ?_)
          obtain ⟨hv9, hu⟩ := hp
          subst hv9
          have hu := hu.symm
          subst hu
          refine lv_if_eq (tgt := 114) hx hb d_X_node_102 (by decide) (fun c102 => ?_) (fun c102 => ?_)
          · refine lv_ldc2 (v := (-1000000000000000)) hx hb hown (ht _ w_402) d_X_node_114 ?_
            exact x_lret hsz hx hb hr hlk hw (by have e := nI_clamp (n := i) (by omega); have e2 := nI_clamp (n := j) (by omega); simp [nodX, c13, c22, c45, c102, e, e2]) d_X_node_117
          · refine lv_aload hx hb d_X_node_105 (lv_at hl 0 rfl) ?_
            refine lv_iload_n hx hb d_X_node_107 rfl (lv_at hl 3 rfl) ?_
            refine x_cl (x_runV (na := 1) (k := 59 + i) (As := [.int (nI j)]) (rest := []) (ci := 5) ⟨hx, hb, hml, hown, ht⟩ (m_Tr_valueAt i j hi4 hj _) w_442 w_443 w_444 w_6 w_445 (by decide +kernel) ⟨rfl, rfl, by decide, by decide⟩ hw (by omega) (o_Tr (by omega)) rfl rfl hl.1 rfl (Nat.le_of_ble_eq_true rfl) d_X_node_108 ⟨Nat.zero_le _, Nat.zero_le _⟩) hw hA (fun v108 u108 H locs hp hw => ?_)
            obtain ⟨hv9, hu⟩ := hp
            subst hv9
            have hu := hu.symm
            subst hu
            refine lv_goto (tgt := 117) hx hb d_X_node_111 (by decide) ?_
            exact x_lret hsz hx hb hr hlk hw (by have e := nI_clamp (n := i) (by omega); have e2 := nI_clamp (n := j) (by omega); simp [nodX, c13, c22, c45, c102, e, e2]) d_X_node_117
        have n53_0 := lv_neT s53_0 (a := 0) rfl
        have n53_1 := lv_neT s53_1 (a := 1) rfl
        have n53_2 := lv_neT s53_2 (a := 2) rfl
        refine lv_tableOut (tgt := 118) hx hb d_X_node_53 (by omega) (by decide) ?_
        refine lv_ldc2 (v := (-1000000000000000)) hx hb hown (ht _ w_402) d_X_node_118 ?_
        exact x_lret hsz hx hb hr hlk hw (by have e := nI_clamp (n := i) (by omega); have e2 := nI_clamp (n := j) (by omega); simp [nodX, c13, c22, c45, s53_0, s53_1, s53_2, e, e2]) d_X_node_121
      · refine lv_ldc2 (v := (-1000000000000000)) hx hb hown (ht _ w_402) d_X_node_48 ?_
        exact x_lret hsz hx hb hr hlk hw (by have e := nI_clamp (n := i) (by omega); have e2 := nI_clamp (n := j) (by omega); simp [nodX, c13, c22, c45, e, e2]) d_X_node_51
    · refine lv_ldc2 (v := (-1000000000000000)) hx hb hown (ht _ w_402) d_X_node_25 ?_
      exact x_lret hsz hx hb hr hlk hw (by simp [nodX, c13, c22]) d_X_node_28)
