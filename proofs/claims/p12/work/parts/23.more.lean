def ushF (a b : Int32) : Int32 := (a.toUInt32 >>> (b.toUInt32 &&& Int32.toUInt32 31)).toInt32
def bc1 (x : Int32) : Int32 := x - (ushF x 1 &&& 1431655765)
def bc2 (x : Int32) : Int32 := (x &&& 858993459) + (ushF x 2 &&& 858993459)
def bc3 (x : Int32) : Int32 := (x + ushF x 4) &&& 252645135
def bc4 (x : Int32) : Int32 := x + ushF x 8
def bc5 (x : Int32) : Int32 := x + ushF x 16
def bcF (x : Int32) : Int32 := bc5 (bc4 (bc3 (bc2 (bc1 x)))) &&& 63
def cntX (u : St) (x : Int32) (n : Nat) : Int32 × St := if x < 0 then (if withinF (-1 - x) 7 = 0 then (-1000, u) else (bcF (u.1 2 (-1 - x).toNatClampNeg), u)) else
  if x = 0 then (cntF (u.1 9) 16, u) else if x = 1 then (u.2.2.1 1, u) else if x = 2 then (lallF u 8, u) else if x = 3 then (nI n, u) else if x = 4 then (u.2.2.1 0, u) else if x = 5 then (sumF (fun t => cntF (fun k => isSpF (u.1 (63 + t) k)) 7) n, u) else if x = 1000 then (sizesF u 16, u) else if x = 10000 then (gsumF (u.1 12) 128, u) else (-1000, u)
theorem ltz {x : Int32} (h : ¬ 0 ≤ x) : x < 0 := by
  rw [Int32.lt_iff_toInt_lt]
  rw [Int32.le_iff_toInt_le] at h
  exact Int.not_le.mp h
theorem gez {x : Int32} (h : 0 ≤ x) : ¬ x < 0 := by
  rw [Int32.lt_iff_toInt_lt]
  rw [Int32.le_iff_toInt_le] at h
  exact Int.not_lt.mpr h
def rstMF (u : St) (i : Int32) (n : Nat) : Nat → Nat → Int64
  | 0, _ => -1000000000000000
  | k + 1, t => if 0 ≤ u.1 80 t then (if posF (u.1 80) t = i then (if u.1 76 (t % 16) = 0 then -1000000000000000 else (u.1 80 t).toInt64 * 65536 - scM u (t / 16) (t % 16) n) else rstMF u i n k (t + 1)) else rstMF u i n k (t + 1)
def rstM (u : St) (i : Int32) (n : Nat) : Int64 × St := (rstMF u i n 128 0, u)
set_option maxHeartbeats 4000000 in
set_option maxRecDepth 100000 in
theorem m_Integer_bitCount {l : Launch} {D : va_G} {g : Ids} {ad : Nat → Nat} {u : St} (x : Int32) : XMi l D g ad y_Integer_bitCount b_Integer_bitCount 1 ((some .int)) (rmN 0 0) [.int x] u (fun v w => v = bcF x ∧ w = u) := fun sz => x_met (by decide) (Nat.le_of_ble_eq_true rfl) (fun p e s m below meth c hsz hx hb hr hml hown ht hlk hw ls hl => by
  have hA : ∀ q, s.heap.size ≤ q → AX ad sz q := fun q h => Or.inr (hsz ▸ h)
  have hl : lv_has ls 1 [(0, .int x)] := hl
  refine lv_iload_n hx hb d_Integer_bitCount_0 rfl (lv_at hl 0 rfl) ?_
  refine lv_iload_n hx hb d_Integer_bitCount_1 rfl (lv_at hl 0 rfl) ?_
  refine lv_iconst (v := 1) hx hb d_Integer_bitCount_2 (by decide) ?_
  refine lv_iushr (v := (ushF x 1)) hx hb d_Integer_bitCount_3 rfl ?_
  refine lv_ldcw (v := 1431655765) hx hb hown (ht _ w_453) d_Integer_bitCount_4 ?_
  refine lv_iand hx hb d_Integer_bitCount_7 ?_
  refine lv_isub hx hb d_Integer_bitCount_8 ?_
  refine lv_istore_n (lv' := [(0, .int (x - ((ushF x 1) &&& 1431655765)))]) hx hb d_Integer_bitCount_9 rfl hl (by decide) rfl (fun ls hl => ?_)
  refine lv_iload_n hx hb d_Integer_bitCount_10 rfl (lv_at hl 0 rfl) ?_
  refine lv_ldcw (v := 858993459) hx hb hown (ht _ w_454) d_Integer_bitCount_11 ?_
  refine lv_iand hx hb d_Integer_bitCount_14 ?_
  refine lv_iload_n hx hb d_Integer_bitCount_15 rfl (lv_at hl 0 rfl) ?_
  refine lv_iconst (v := 2) hx hb d_Integer_bitCount_16 (by decide) ?_
  refine lv_iushr (v := (ushF (x - ((ushF x 1) &&& 1431655765)) 2)) hx hb d_Integer_bitCount_17 rfl ?_
  refine lv_ldcw (v := 858993459) hx hb hown (ht _ w_454) d_Integer_bitCount_18 ?_
  refine lv_iand hx hb d_Integer_bitCount_21 ?_
  refine lv_iadd hx hb d_Integer_bitCount_22 ?_
  refine lv_istore_n (lv' := [(0, .int (((x - ((ushF x 1) &&& 1431655765)) &&& 858993459) + ((ushF (x - ((ushF x 1) &&& 1431655765)) 2) &&& 858993459)))]) hx hb d_Integer_bitCount_23 rfl hl (by decide) rfl (fun ls hl => ?_)
  refine lv_iload_n hx hb d_Integer_bitCount_24 rfl (lv_at hl 0 rfl) ?_
  refine lv_iload_n hx hb d_Integer_bitCount_25 rfl (lv_at hl 0 rfl) ?_
  refine lv_iconst (v := 4) hx hb d_Integer_bitCount_26 (by decide) ?_
  refine lv_iushr (v := (ushF (((x - ((ushF x 1) &&& 1431655765)) &&& 858993459) + ((ushF (x - ((ushF x 1) &&& 1431655765)) 2) &&& 858993459)) 4)) hx hb d_Integer_bitCount_27 rfl ?_
  refine lv_iadd hx hb d_Integer_bitCount_28 ?_
  refine lv_ldcw (v := 252645135) hx hb hown (ht _ w_455) d_Integer_bitCount_29 ?_
  refine lv_iand hx hb d_Integer_bitCount_32 ?_
  refine lv_istore_n (lv' := [(0, .int (((((x - ((ushF x 1) &&& 1431655765)) &&& 858993459) + ((ushF (x - ((ushF x 1) &&& 1431655765)) 2) &&& 858993459)) + (ushF (((x - ((ushF x 1) &&& 1431655765)) &&& 858993459) + ((ushF (x - ((ushF x 1) &&& 1431655765)) 2) &&& 858993459)) 4)) &&& 252645135))]) hx hb d_Integer_bitCount_33 rfl hl (by decide) rfl (fun ls hl => ?_)
  refine lv_iload_n hx hb d_Integer_bitCount_34 rfl (lv_at hl 0 rfl) ?_
  refine lv_iload_n hx hb d_Integer_bitCount_35 rfl (lv_at hl 0 rfl) ?_
  refine lv_bipush (v := 8) hx hb d_Integer_bitCount_36 (by decide) ?_
  refine lv_iushr (v := (ushF (((((x - ((ushF x 1) &&& 1431655765)) &&& 858993459) + ((ushF (x - ((ushF x 1) &&& 1431655765)) 2) &&& 858993459)) + (ushF (((x - ((ushF x 1) &&& 1431655765)) &&& 858993459) + ((ushF (x - ((ushF x 1) &&& 1431655765)) 2) &&& 858993459)) 4)) &&& 252645135) 8)) hx hb d_Integer_bitCount_38 rfl ?_
  refine lv_iadd hx hb d_Integer_bitCount_39 ?_
  refine lv_istore_n (lv' := [(0, .int ((((((x - ((ushF x 1) &&& 1431655765)) &&& 858993459) + ((ushF (x - ((ushF x 1) &&& 1431655765)) 2) &&& 858993459)) + (ushF (((x - ((ushF x 1) &&& 1431655765)) &&& 858993459) + ((ushF (x - ((ushF x 1) &&& 1431655765)) 2) &&& 858993459)) 4)) &&& 252645135) + (ushF (((((x - ((ushF x 1) &&& 1431655765)) &&& 858993459) + ((ushF (x - ((ushF x 1) &&& 1431655765)) 2) &&& 858993459)) + (ushF (((x - ((ushF x 1) &&& 1431655765)) &&& 858993459) + ((ushF (x - ((ushF x 1) &&& 1431655765)) 2) &&& 858993459)) 4)) &&& 252645135) 8)))]) hx hb d_Integer_bitCount_40 rfl hl (by decide) rfl (fun ls hl => ?_)
  refine lv_iload_n hx hb d_Integer_bitCount_41 rfl (lv_at hl 0 rfl) ?_
  refine lv_iload_n hx hb d_Integer_bitCount_42 rfl (lv_at hl 0 rfl) ?_
  refine lv_bipush (v := 16) hx hb d_Integer_bitCount_43 (by decide) ?_
  refine lv_iushr (v := (ushF ((((((x - ((ushF x 1) &&& 1431655765)) &&& 858993459) + ((ushF (x - ((ushF x 1) &&& 1431655765)) 2) &&& 858993459)) + (ushF (((x - ((ushF x 1) &&& 1431655765)) &&& 858993459) + ((ushF (x - ((ushF x 1) &&& 1431655765)) 2) &&& 858993459)) 4)) &&& 252645135) + (ushF (((((x - ((ushF x 1) &&& 1431655765)) &&& 858993459) + ((ushF (x - ((ushF x 1) &&& 1431655765)) 2) &&& 858993459)) + (ushF (((x - ((ushF x 1) &&& 1431655765)) &&& 858993459) + ((ushF (x - ((ushF x 1) &&& 1431655765)) 2) &&& 858993459)) 4)) &&& 252645135) 8)) 16)) hx hb d_Integer_bitCount_45 rfl ?_
  refine lv_iadd hx hb d_Integer_bitCount_46 ?_
  refine lv_istore_n (lv' := [(0, .int (((((((x - ((ushF x 1) &&& 1431655765)) &&& 858993459) + ((ushF (x - ((ushF x 1) &&& 1431655765)) 2) &&& 858993459)) + (ushF (((x - ((ushF x 1) &&& 1431655765)) &&& 858993459) + ((ushF (x - ((ushF x 1) &&& 1431655765)) 2) &&& 858993459)) 4)) &&& 252645135) + (ushF (((((x - ((ushF x 1) &&& 1431655765)) &&& 858993459) + ((ushF (x - ((ushF x 1) &&& 1431655765)) 2) &&& 858993459)) + (ushF (((x - ((ushF x 1) &&& 1431655765)) &&& 858993459) + ((ushF (x - ((ushF x 1) &&& 1431655765)) 2) &&& 858993459)) 4)) &&& 252645135) 8)) + (ushF ((((((x - ((ushF x 1) &&& 1431655765)) &&& 858993459) + ((ushF (x - ((ushF x 1) &&& 1431655765)) 2) &&& 858993459)) + (ushF (((x - ((ushF x 1) &&& 1431655765)) &&& 858993459) + ((ushF (x - ((ushF x 1) &&& 1431655765)) 2) &&& 858993459)) 4)) &&& 252645135) + (ushF (((((x - ((ushF x 1) &&& 1431655765)) &&& 858993459) + ((ushF (x - ((ushF x 1) &&& 1431655765)) 2) &&& 858993459)) + (ushF (((x - ((ushF x 1) &&& 1431655765)) &&& 858993459) + ((ushF (x - ((ushF x 1) &&& 1431655765)) 2) &&& 858993459)) 4)) &&& 252645135) 8)) 16)))]) hx hb d_Integer_bitCount_47 rfl hl (by decide) rfl (fun ls hl => ?_)
  refine lv_iload_n hx hb d_Integer_bitCount_48 rfl (lv_at hl 0 rfl) ?_
  refine lv_bipush (v := 63) hx hb d_Integer_bitCount_49 (by decide) ?_
  refine lv_iand hx hb d_Integer_bitCount_51 ?_
  exact x_iret hsz hx hb hr hlk hw ⟨rfl, rfl⟩ d_Integer_bitCount_52)
set_option maxHeartbeats 4000000 in
set_option maxRecDepth 100000 in
theorem m_X_count {l : Launch} {D : va_G} {g : Ids} {ad : Nat → Nat} {u : St} (x : Int32) (n : Nat) (hn4 : n ≤ 4) (hs : u.2.2.1 2 = nI n) : XMi l D g ad y_X_count b_X_count 3 ((some .int)) (rmN 4 87) [.ref (ad 0), .int x] u (fun v w => (v, w) = cntX u x n) := fun sz => x_met (by decide) (Nat.le_of_ble_eq_true rfl) (fun p e s m below meth c hsz hx hb hr hml hown ht hlk hw ls hl => by
  have hA : ∀ q, s.heap.size ≤ q → AX ad sz q := fun q h => Or.inr (hsz ▸ h)
  have hl : lv_has ls 3 [(0, .ref (ad 0)), (1, .int x)] := hl
  refine lv_iload_n hx hb d_X_count_0 rfl (lv_at hl 1 rfl) ?_
  refine lv_if_ge (tgt := 31) hx hb d_X_count_1 (by decide) (fun c1 => ?_) (fun c1 => ?_)
  · refine lv_iload_n hx hb d_X_count_31 rfl (lv_at hl 1 rfl) ?_
    by_cases s32_0 : x = 0
    · subst s32_0
      refine lv_lookup (tgt := 108) hx hb d_X_count_32 (by decide) rfl (by decide) ?_
      refine lv_aload_n hx hb d_X_count_108 rfl (lv_at hl 0 rfl) ?_
      refine x_get (ci := 6) (k := 0) hx hb ht in_X hown hw (by decide) o_X rfl 0 (by decide) (ht _ w_144) rfl d_X_count_109 ?_
      refine x_ci (x_runV (na := 0) (k := 1) (As := []) (rest := []) (ci := 4) ⟨hx, hb, hml, hown, ht⟩ (m_Sh_number _) w_456 w_457 w_458 w_2 w_459 (by decide +kernel) ⟨rfl, rfl, by decide, by decide⟩ hw (by decide) o_Sh rfl rfl hl.1 rfl (Nat.le_of_ble_eq_true rfl) d_X_count_112 ⟨Nat.zero_le _, Nat.zero_le _⟩) hw hA (fun v112 u112 H locs hp hw => ?_)
      obtain ⟨hv9, hu⟩ := hp
      subst hv9
      have hu := hu.symm
      subst hu
      exact x_iret hsz hx hb hr hlk hw (by simp [cntX, hs]) d_X_count_115
    by_cases s32_1 : x = 1
    · subst s32_1
      refine lv_lookup (tgt := 116) hx hb d_X_count_32 (by decide) rfl (by decide) ?_
      refine lv_aload_n hx hb d_X_count_116 rfl (lv_at hl 0 rfl) ?_
      refine x_get (ci := 6) (k := 0) hx hb ht in_X hown hw (by decide) o_X rfl 2 (by decide) (ht _ w_146) rfl d_X_count_117 ?_
      refine x_ci (x_runV (na := 0) (k := 3) (As := []) (rest := []) (ci := 2) ⟨hx, hb, hml, hown, ht⟩ (m_Ju_number _) w_220 w_221 w_222 w_3 w_223 (by decide +kernel) ⟨rfl, rfl, by decide, by decide⟩ hw (by decide) o_Ju rfl rfl hl.1 rfl (Nat.le_of_ble_eq_true rfl) d_X_count_120 ⟨Nat.zero_le _, Nat.zero_le _⟩) hw hA (fun v120 u120 H locs hp hw => ?_)
      obtain ⟨hv9, hu⟩ := hp
      subst hv9
      have hu := hu.symm
      subst hu
      exact x_iret hsz hx hb hr hlk hw (by simp [cntX, hs]) d_X_count_123
    by_cases s32_2 : x = 2
    · subst s32_2
      refine lv_lookup (tgt := 124) hx hb d_X_count_32 (by decide) rfl (by decide) ?_
      refine lv_aload_n hx hb d_X_count_124 rfl (lv_at hl 0 rfl) ?_
      refine x_ci (x_runV (na := 0) (k := 0) (As := []) (rest := []) (ci := 6) ⟨hx, hb, hml, hown, ht⟩ (m_X_liveJudgements _) w_460 w_462 s_12 w_1 w_463 (by decide +kernel) ⟨rfl, rfl, by decide, by decide⟩ hw (by decide) o_X rfl rfl hl.1 rfl (Nat.le_of_ble_eq_true rfl) d_X_count_125 ⟨Nat.zero_le _, Nat.zero_le _⟩) hw hA (fun v125 u125 H locs hp hw => ?_)
      obtain ⟨hv9, hu⟩ := hp
      subst hv9
      have hu := hu.symm
      subst hu
      exact x_iret hsz hx hb hr hlk hw (by simp [cntX, hs]) d_X_count_128
    by_cases s32_3 : x = 3
    · subst s32_3
      refine lv_lookup (tgt := 129) hx hb d_X_count_32 (by decide) rfl (by decide) ?_
      refine lv_aload_n hx hb d_X_count_129 rfl (lv_at hl 0 rfl) ?_
      refine x_get (ci := 6) (k := 0) hx hb ht in_X hown hw (by decide) o_X rfl 3 (by decide) (ht _ w_147) rfl d_X_count_130 ?_
      refine x_ci (x_runV (na := 0) (k := 4) (As := []) (rest := []) (ci := 0) ⟨hx, hb, hml, hown, ht⟩ (m_Fo_size _) w_421 w_422 w_423 w_5 w_424 (by decide +kernel) ⟨rfl, rfl, by decide, by decide⟩ hw (by decide) o_Fo rfl rfl hl.1 rfl (Nat.le_of_ble_eq_true rfl) d_X_count_133 ⟨Nat.zero_le _, Nat.zero_le _⟩) hw hA (fun v133 u133 H locs hp hw => ?_)
      obtain ⟨hv9, hu⟩ := hp
      subst hv9
      have hu := hu.symm
      subst hu
      exact x_iret hsz hx hb hr hlk hw (by simp [cntX, hs]) d_X_count_136
    by_cases s32_4 : x = 4
    · subst s32_4
      refine lv_lookup (tgt := 137) hx hb d_X_count_32 (by decide) rfl (by decide) ?_
      refine lv_aload_n hx hb d_X_count_137 rfl (lv_at hl 0 rfl) ?_
      refine x_get (ci := 6) (k := 0) hx hb ht in_X hown hw (by decide) o_X rfl 8 (by decide) (ht _ w_152) rfl d_X_count_138 ?_
      exact x_iret hsz hx hb hr hlk hw (by simp [cntX, hs]) d_X_count_141
    by_cases s32_5 : x = 5
    · subst s32_5
      refine lv_lookup (tgt := 142) hx hb d_X_count_32 (by decide) rfl (by decide) ?_
      refine lv_aload_n hx hb d_X_count_142 rfl (lv_at hl 0 rfl) ?_
      refine x_get (ci := 6) (k := 0) hx hb ht in_X hown hw (by decide) o_X rfl 3 (by decide) (ht _ w_147) rfl d_X_count_143 ?_
      refine x_ci (x_runV (na := 0) (k := 4) (As := []) (rest := []) (ci := 0) ⟨hx, hb, hml, hown, ht⟩ (m_Fo_splits n hn4 hs _) w_464 w_465 w_466 w_5 w_467 (by decide +kernel) ⟨rfl, rfl, by decide, by decide⟩ hw (by decide) o_Fo rfl rfl hl.1 rfl (Nat.le_of_ble_eq_true rfl) d_X_count_146 ⟨Nat.zero_le _, Nat.zero_le _⟩) hw hA (fun v146 u146 H locs hp hw => ?_)
      obtain ⟨hv9, hu⟩ := hp
      subst hv9
      have hu := hu.symm
      subst hu
      exact x_iret hsz hx hb hr hlk hw (by simp [cntX, hs]) d_X_count_149
    by_cases s32_6 : x = 1000
    · subst s32_6
      refine lv_lookup (tgt := 150) hx hb d_X_count_32 (by decide) rfl (by decide) ?_
      refine lv_aload_n hx hb d_X_count_150 rfl (lv_at hl 0 rfl) ?_
      refine x_get (ci := 6) (k := 0) hx hb ht in_X hown hw (by decide) o_X rfl 0 (by decide) (ht _ w_144) rfl d_X_count_151 ?_
      refine x_ci (x_runV (na := 0) (k := 1) (As := []) (rest := []) (ci := 4) ⟨hx, hb, hml, hown, ht⟩ (m_Sh_sumOfSizes _) w_472 w_473 w_474 w_2 w_475 (by decide +kernel) ⟨rfl, rfl, by decide, by decide⟩ hw (by decide) o_Sh rfl rfl hl.1 rfl (Nat.le_of_ble_eq_true rfl) d_X_count_154 ⟨Nat.zero_le _, Nat.zero_le _⟩) hw hA (fun v154 u154 H locs hp hw => ?_)
      obtain ⟨hv9, hu⟩ := hp
      subst hv9
      have hu := hu.symm
      subst hu
      exact x_iret hsz hx hb hr hlk hw (by simp [cntX, hs]) d_X_count_157
    by_cases s32_7 : x = 10000
    · subst s32_7
      refine lv_lookup (tgt := 158) hx hb d_X_count_32 (by decide) rfl (by decide) ?_
      refine lv_aload_n hx hb d_X_count_158 rfl (lv_at hl 0 rfl) ?_
      refine x_get (ci := 6) (k := 0) hx hb ht in_X hown hw (by decide) o_X rfl 2 (by decide) (ht _ w_146) rfl d_X_count_159 ?_
      refine x_ci (x_runV (na := 0) (k := 3) (As := []) (rest := []) (ci := 2) ⟨hx, hb, hml, hown, ht⟩ (m_Ju_sumOfGrades _) w_476 w_477 w_478 w_3 w_479 (by decide +kernel) ⟨rfl, rfl, by decide, by decide⟩ hw (by decide) o_Ju rfl rfl hl.1 rfl (Nat.le_of_ble_eq_true rfl) d_X_count_162 ⟨Nat.zero_le _, Nat.zero_le _⟩) hw hA (fun v162 u162 H locs hp hw => ?_)
      obtain ⟨hv9, hu⟩ := hp
      subst hv9
      have hu := hu.symm
      subst hu
      exact x_iret hsz hx hb hr hlk hw (by simp [cntX, hs]) d_X_count_165
    refine lv_lookup (off := 134) (tgt := 166) hx hb d_X_count_32 (by decide) (by show Op.lookupswitch.offset [(0, 76), (1, 84), (2, 92), (3, 97), (4, 105), (5, 110), (1000, 118), (10000, 126)] _ _ = _; rw [lv_osw (a := 0) s32_0 rfl, lv_osw (a := 1) s32_1 rfl, lv_osw (a := 2) s32_2 rfl, lv_osw (a := 3) s32_3 rfl, lv_osw (a := 4) s32_4 rfl, lv_osw (a := 5) s32_5 rfl, lv_osw (a := 1000) s32_6 rfl, lv_osw (a := 10000) s32_7 rfl]; rfl) (by decide) ?_
    refine lv_sipush (v := (-1000)) hx hb d_X_count_166 (by decide) ?_
    exact x_iret hsz hx hb hr hlk hw (by have c9 := gez c1; simp [cntX, c9, s32_0, s32_1, s32_2, s32_3, s32_4, s32_5, s32_6, s32_7]) d_X_count_169
  · refine lv_iconst (v := (-1)) hx hb d_X_count_4 (by decide) ?_
    refine lv_iload_n hx hb d_X_count_5 rfl (lv_at hl 1 rfl) ?_
    refine lv_isub hx hb d_X_count_6 ?_
    refine lv_istore_n (lv' := [(2, .int ((-1) - x)), (0, .ref (ad 0)), (1, .int x)]) hx hb d_X_count_7 rfl hl (by decide) rfl (fun ls hl => ?_)
    refine lv_iload_n hx hb d_X_count_8 rfl (lv_at hl 0 rfl) ?_
    refine x_ci (x_runS (na := 1) (As := [.int ((-1) - x)]) (rest := []) ⟨hx, hb, hml, hown, ht⟩ (m_X_isQuery ((-1) - x) _) w_209 w_210 w_1 w_211 (by decide +kernel) ⟨rfl, rfl, by decide, by decide⟩ hw rfl hl.1 rfl (Nat.le_of_ble_eq_true rfl) d_X_count_9 ⟨Nat.zero_le _, Nat.zero_le _⟩) hw hA (fun v9 u9 H locs hp hw => ?_)
    obtain ⟨hv9, hu⟩ := hp
    rw [hv9]
    have hu := hu.symm
    subst hu
    refine lv_if_eq (tgt := 27) hx hb d_X_count_12 (by decide) (fun c12 => ?_) (fun c12 => ?_)
    · refine lv_sipush (v := (-1000)) hx hb d_X_count_27 (by decide) ?_
      exact x_iret hsz hx hb hr hlk hw (by have c9 := ltz c1; simp [cntX, c9, c12]) d_X_count_30
    · obtain ⟨j, hj, hxj⟩ : ∃ j : Nat, j < 8 ∧ -1 - x = nI j := vp_in_of (within_in (N := 8) c12) (by decide)
      rw [hxj] at hl
      refine lv_aload_n hx hb d_X_count_15 rfl (lv_at hl 1 rfl) ?_
      refine x_get (ci := 6) (k := 0) hx hb ht in_X hown hw (by decide) o_X rfl 1 (by decide) (ht _ w_145) rfl d_X_count_16 ?_
      refine lv_iload_n hx hb d_X_count_19 rfl (lv_at hl 0 rfl) ?_
      refine x_iald (k := 2) hx hb hw (by decide) rfl (vin (N := 8) (by omega) rfl (by omega)) d_X_count_20 ?_
      rw [nI_clamp (n := j) (by omega)]
      refine x_ci (x_runS (na := 1) (As := [.int (u.1 2 j)]) (rest := []) ⟨hx, hb, hml, hown, ht⟩ (m_Integer_bitCount (u.1 2 j) _) w_450 w_451 w_11 w_452 (by decide +kernel) ⟨rfl, rfl, by decide, by decide⟩ hw rfl hl.1 rfl (Nat.le_of_ble_eq_true rfl) d_X_count_21 ⟨Nat.zero_le _, Nat.zero_le _⟩) hw hA (fun v21 u21 H locs hp hw => ?_)
      obtain ⟨hv9, hu⟩ := hp
      rw [hv9]
      have hu := hu.symm
      subst hu
      refine lv_goto (tgt := 30) hx hb d_X_count_24 (by decide) ?_
      exact x_iret hsz hx hb hr hlk hw (by have e := nI_clamp (n := j) (by omega); have c9 := ltz c1; rw [hxj] at c12; simp [cntX, c9, c12, hxj, e]) d_X_count_30)
set_option maxHeartbeats 4000000 in
set_option maxRecDepth 100000 in
theorem m_M_rest {l : Launch} {D : va_G} {g : Ids} {ad : Nat → Nat} {u : St} (i : Int32) (n : Nat) (hn4 : n ≤ 4) (hs : u.2.2.1 11 = nI n) (hK3 : ∀ t, t < n → ∀ j, j < 7 → u.1 81 (t * 7 + j) = 2 → j < 3) : XMl l D g ad y_M_rest b_M_rest 4 ((some .long)) (rmN 2 55) [.ref (ad 75), .int i] u (fun v w => (v, w) = rstM u i n) := fun sz => x_met (by decide) (Nat.le_of_ble_eq_true rfl) (fun p e s m below meth c hsz hx hb hr hml hown ht hlk hw ls hl => by
  have hA : ∀ q, s.heap.size ≤ q → AX ad sz q := fun q h => Or.inr (hsz ▸ h)
  have hl : lv_has ls 4 [(0, .ref (ad 75)), (1, .int i)] := hl
  refine lv_iconst (v := 0) hx hb d_M_rest_0 (by decide) ?_
  refine lv_istore_n (lv' := [(2, .int 0), (0, .ref (ad 75)), (1, .int i)]) hx hb d_M_rest_1 rfl hl (by decide) rfl (fun ls hl => ?_)
  refine lv_iconst (v := 0) hx hb d_M_rest_2 (by decide) ?_
  refine lv_istore_n (lv' := [(3, .int 0), (2, .int 0), (0, .ref (ad 75)), (1, .int i)]) hx hb d_M_rest_3 rfl hl (by decide) rfl (fun ls hl => ?_)
  have L4 : ∀ (n4 : Nat) (t : Nat), t ≤ 128 → rstMF u i n (128 - t) t = rstMF u i n 128 0 → 128 - t < n4 → ∀ (H : Heap) (locs : List Loc), XH D g ad (AX ad sz) s s.heap H locs u → ∀ ls : Array Slot, lv_has ls 4 [(3, .int (nI t)), (2, .int (posF (u.1 80) t)), (0, .ref (ad 75)), (1, .int i)] → W p l e (rmN 2 55) s m ([.ref (ad 75), .int i] : List Value).toArray below meth c H locs 0 0 (MQ below (va_Ql (fun v w => (v, w) = rstM u i n) (XB D g ad sz) (AX ad sz)) ([.ref (ad 75), .int i] : List Value).toArray s 0 0 (AX ad sz)) (F0 m 4 ls []) := by
    intro n4
    induction n4 with
    | zero => intro t h1 hv hz; exact absurd hz (by omega)
    | succ n4 ih4 =>
      intro t h1 hv hnL4 H locs hw ls hl
      refine lv_iload_n hx hb d_M_rest_4 rfl (lv_at hl 0 rfl) ?_
      refine lv_sipush (v := 128) hx hb d_M_rest_5 (by decide) ?_
      refine lv_icmp_ge (tgt := 80) hx hb d_M_rest_8 (by decide) (fun c8 => ?_) (fun c8 => ?_)
      · have h8 : (128) ≤ (t) := (nI_leI (a := 128) (b := t) (by omega) (by omega)).mp c8
        refine lv_ldc2 (v := (-1000000000000000)) hx hb hown (ht _ w_649) d_M_rest_80 ?_
        exact x_lret hsz hx hb hr hlk hw (by unfold rstM; rw [← hv, show 128 - t = 0 by omega]; rfl) d_M_rest_83
      · have h8 : ¬ (128) ≤ (t) := fun hz9 => c8 ((nI_leI (a := 128) (b := t) (by omega) (by omega)).mpr hz9)
        refine lv_aload_n hx hb d_M_rest_11 rfl (lv_at hl 2 rfl) ?_
        refine x_get (ci := 7) (k := 75) hx hb ht in_M hown hw (by decide) o_M rfl 4 (by decide) (ht _ w_490) rfl d_M_rest_12 ?_
        refine lv_iload_n hx hb d_M_rest_15 rfl (lv_at hl 0 rfl) ?_
        refine x_iald (k := 80) hx hb hw (by decide) rfl (vin (N := 128) (by omega) rfl (by omega)) d_M_rest_16 ?_
        rw [nI_clamp (n := t) (by omega)]
        refine lv_if_ge (tgt := 23) hx hb d_M_rest_17 (by decide) (fun c17 => ?_) (fun c17 => ?_)
        · refine lv_iload_n hx hb d_M_rest_23 rfl (lv_at hl 1 rfl) ?_
          refine lv_iload_n hx hb d_M_rest_24 rfl (lv_at hl 3 rfl) ?_
          refine lv_icmp_ne (tgt := 71) hx hb d_M_rest_25 (by decide) (fun c25 => ?_) (fun c25 => ?_)
          · refine lv_iinc (v := ((posF (u.1 80) t) + 1)) (lv' := [(2, .int ((posF (u.1 80) t) + 1)), (3, .int (nI t)), (0, .ref (ad 75)), (1, .int i)]) hx hb d_M_rest_71 hl (k := 1) rfl rfl (by decide) rfl (fun ls hl => ?_)
            refine lv_iinc (v := (nI (t + 1))) (lv' := [(3, .int (nI (t + 1))), (2, .int ((posF (u.1 80) t) + 1)), (0, .ref (ad 75)), (1, .int i)]) hx hb d_M_rest_74 hl (k := 1) rfl (nI_1 _) (by decide) rfl (fun ls hl => ?_)
            refine lv_goto (tgt := 4) hx hb d_M_rest_77 (by decide) ?_
            exact ih4 (t + 1) (by omega) (by rw [← hv, show 128 - t = 128 - (t + 1) + 1 by omega]; simp only [rstMF]; first | (rw [if_neg c17]; done) | (rw [if_pos c17, if_neg c25]; done)) (by omega) _ _ hw ls (by rw [← (show ((posF (u.1 80) t) + 1) = (posF (u.1 80) (t + 1)) from (by simp only [posF]; first | (rw [if_pos (ltz c17)]; done) | (rw [if_neg (gez c17)]; done)))]; exact lv_sub hl [0, 1, 2, 3] rfl)
          · refine lv_aload_n hx hb d_M_rest_28 rfl (lv_at hl 2 rfl) ?_
            refine x_get (ci := 7) (k := 75) hx hb ht in_M hown hw (by decide) o_M rfl 0 (by decide) (ht _ w_486) rfl d_M_rest_29 ?_
            refine lv_iload_n hx hb d_M_rest_32 rfl (lv_at hl 0 rfl) ?_
            refine lv_bipush (v := 16) hx hb d_M_rest_33 (by decide) ?_
            refine lv_irem hx hb d_M_rest_35 (by decide) ?_
            rw [show ((nI t) - (nI t) / 16 * 16) = (nI (t % 16)) from pk_rem (a := t) (d := 16) (by omega) (by decide) (by decide)]
            refine x_zald (k := 76) hx hb hw (by decide) rfl (vin (N := 16) (by omega) rfl (by omega)) d_M_rest_36 ?_
            rw [nI_clamp (n := t % 16) (by omega)]
            refine lv_if_eq (tgt := 67) hx hb d_M_rest_37 (by decide) (fun c37 => ?_) (fun c37 => ?_)
            · refine lv_ldc2 (v := (-1000000000000000)) hx hb hown (ht _ w_649) d_M_rest_67 ?_
              exact x_lret hsz hx hb hr hlk hw (by unfold rstM; rw [← hv, show 128 - t = 128 - (t + 1) + 1 by omega]; simp only [rstMF]; rw [if_pos c17, if_pos c25]; first | (rw [if_pos c37]; done) | (rw [if_neg c37]; done)) d_M_rest_70
            · refine lv_aload_n hx hb d_M_rest_40 rfl (lv_at hl 2 rfl) ?_
              refine x_get (ci := 7) (k := 75) hx hb ht in_M hown hw (by decide) o_M rfl 4 (by decide) (ht _ w_490) rfl d_M_rest_41 ?_
              refine lv_iload_n hx hb d_M_rest_44 rfl (lv_at hl 0 rfl) ?_
              refine x_iald (k := 80) hx hb hw (by decide) rfl (vin (N := 128) (by omega) rfl (by omega)) d_M_rest_45 ?_
              rw [nI_clamp (n := t) (by omega)]
              refine lv_i2l (v := (u.1 80 t).toInt64) hx hb d_M_rest_46 rfl ?_
              refine lv_ldc2 (v := 65536) hx hb hown (ht _ w_593) d_M_rest_47 ?_
              refine lv_lmul hx hb d_M_rest_50 ?_
              refine lv_aload_n hx hb d_M_rest_51 rfl (lv_at hl 2 rfl) ?_
              refine lv_iload_n hx hb d_M_rest_52 rfl (lv_at hl 0 rfl) ?_
              refine lv_bipush (v := 16) hx hb d_M_rest_53 (by decide) ?_
              refine lv_idiv hx hb d_M_rest_55 (by decide) ?_
              rw [show ((nI t) / 16) = (nI (t / 16)) from pk_div (a := t) (d := 16) (by omega) (by decide) (by decide)]
              refine lv_iload_n hx hb d_M_rest_56 rfl (lv_at hl 0 rfl) ?_
              refine lv_bipush (v := 16) hx hb d_M_rest_57 (by decide) ?_
              refine lv_irem hx hb d_M_rest_59 (by decide) ?_
              rw [show ((nI t) - (nI t) / 16 * 16) = (nI (t % 16)) from pk_rem (a := t) (d := 16) (by omega) (by decide) (by decide)]
              refine x_cl (x_runV (na := 2) (k := 75) (As := [.int (nI (t / 16)), .int (nI (t % 16))]) (rest := [.long ((u.1 80 t).toInt64 * 65536)]) (ci := 7) ⟨hx, hb, hml, hown, ht⟩ (m_M_scoreOf (t / 16) (t % 16) n (by omega) (by omega) hn4 hs hK3 _) w_641 w_643 s_25 w_9 w_644 (by decide +kernel) ⟨rfl, rfl, by decide, by decide⟩ hw (by decide) o_M rfl rfl hl.1 rfl (Nat.le_of_ble_eq_true rfl) d_M_rest_60 ⟨Nat.zero_le _, Nat.zero_le _⟩) hw hA (fun v60 u60 H locs hp hw => ?_)
              obtain ⟨hv9, hu⟩ := hp
              subst hv9
              have hu := hu.symm
              subst hu
              refine lv_lsub hx hb d_M_rest_63 ?_
              refine lv_goto (tgt := 70) hx hb d_M_rest_64 (by decide) ?_
              exact x_lret hsz hx hb hr hlk hw (by unfold rstM; rw [← hv, show 128 - t = 128 - (t + 1) + 1 by omega]; simp only [rstMF]; rw [if_pos c17, if_pos c25]; first | (rw [if_pos c37]; done) | (rw [if_neg c37]; done)) d_M_rest_70
        · refine lv_goto (tgt := 74) hx hb d_M_rest_20 (by decide) ?_
          refine lv_iinc (v := (nI (t + 1))) (lv' := [(3, .int (nI (t + 1))), (2, .int (posF (u.1 80) t)), (0, .ref (ad 75)), (1, .int i)]) hx hb d_M_rest_74 hl (k := 0) rfl (nI_1 _) (by decide) rfl (fun ls hl => ?_)
          refine lv_goto (tgt := 4) hx hb d_M_rest_77 (by decide) ?_
          exact ih4 (t + 1) (by omega) (by rw [← hv, show 128 - t = 128 - (t + 1) + 1 by omega]; simp only [rstMF]; first | (rw [if_neg c17]; done) | (rw [if_pos c17, if_neg c25]; done)) (by omega) _ _ hw ls (by rw [← (show (posF (u.1 80) t) = (posF (u.1 80) (t + 1)) from (by simp only [posF]; first | (rw [if_pos (ltz c17)]; done) | (rw [if_neg (gez c17)]; done)))]; exact lv_sub hl [0, 1, 2, 3] rfl)
  exact L4 ((128 - 0) + 1) (0) (by omega) (rfl) (by omega) _ _ hw ls (lv_sub hl [0, 1, 2, 3] rfl))
