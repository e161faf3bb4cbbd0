theorem lw_i4 {i L : Nat} (hi : i ≤ 4096) (hL : L ≤ 2048) (h : ¬ nI L - 4 < nI i) : i + 4 ≤ L := by
  rw [Int32.lt_iff_toInt_lt, show nI L - 4 = nI L - nI 4 from rfl, pk_sub_toInt (a := L) (b := 4) (by omega) (by omega), nI_toInt (by omega)] at h
  omega
set_option maxHeartbeats 4000000 in
set_option maxRecDepth 100000 in
theorem law_loop {p : Program} {l : Launch} {e : Env} {s : State} {m : MethodId} {below : List Frame} {meth : Method} {c : Code} {D : va_G} {g : Ids} {ad : Nat → Nat} {b L : Nat} {xs : Nat → Int32} (hL : L ≤ 2048) (C0 : lw_At p s m meth c b L xs) :
    ∀ (n18 i : Nat) (u : St), i ≤ L → Jnv u → L + 4 - i < n18 → ∀ (H : Heap) (locs : List Loc), XH D g ad (fun q : Nat => s.heap.size ≤ q) s s.heap H locs u → ∀ ls : Array Slot, lv_has ls 4 [(3, .int (nI i)), (0, .ref b), (1, .ref (ad 0)), (2, .ref (ad 75))] → W p l e room_1 s m #[Value.ref b] below meth c H locs 600000 7302250 (lw_Z below #[Value.ref b] s) (F0 m 18 ls []) := by
  obtain ⟨hx, hb, hr, hml, hown, hts, hX, hbl, hlk, hgv⟩ := C0
  have hown : s.vm.findClass "LearnedRankerLaw" = some m.cls := hown
  have ht : ∀ w ∈ lwg, w.before #[Value.ref b] s = true := fun w h => hts w (List.mem_filter.mp h).1
  have hA : ∀ q : Nat, s.heap.size ≤ q → (fun q : Nat => s.heap.size ≤ q) q := fun _ h => h
  have hbA : ¬ (fun q : Nat => s.heap.size ≤ q) b := Nat.not_le.mpr hbl
  intro n18
  induction n18 with
  | zero => intro i u h1 hI hz; exact absurd hz (by omega)
  | succ n18 ih18 =>
    intro i u h1 hI hnL H locs hw ls hl
    refine lv_iload_n hx hb d_law_law_18 rfl (lv_at hl 0 rfl) ?_
    refine lv_aload_n hx hb d_law_law_19 rfl (lv_at hl 1 rfl) ?_
    refine va_slen hx hb hX hbl hbA hw.2.2.2.1 d_law_law_20 ?_
    refine lv_iconst (v := 4) hx hb d_law_law_21 (by decide) ?_
    refine lv_isub hx hb d_law_law_22 ?_
    refine lv_icmp_gt (tgt := 625) hx hb d_law_law_23 (by decide) (fun c23 => ?_) (fun c23 => ?_)
    · refine lv_iconst (v := 1) hx hb d_law_law_625 (by decide) ?_
      refine va_forget (fun q hq => hw.2.2.2.1.2.2 q hq) ?_
      exact lw_ret hx hb hr hlk d_law_law_626
    · have hi4 : i + 4 ≤ L := lw_i4 (by omega) hL c23
      refine lv_aload_n hx hb d_law_law_26 rfl (lv_at hl 1 rfl) ?_
      refine lv_iload_n hx hb d_law_law_27 rfl (lv_at hl 0 rfl) ?_
      refine va_sld hx hb hX hbl hbA hw.2.2.2.1 (vp_in_nI (n := i) (by omega) (by omega)) d_law_law_28 ?_
      rw [nI_clamp (n := i) (by omega)]
      refine lv_bipush (v := 15) hx hb d_law_law_29 (by decide) ?_
      refine lv_iand hx hb d_law_law_31 ?_
      refine lv_topi (fun y32 e32 => ?_)
      by_cases s32_0 : y32 = 0
      · subst s32_0
        refine lv_tableIn (tgt := 104) hx hb d_law_law_32 (by decide) (by decide) rfl (by decide) ?_
        refine lv_aload_n hx hb d_law_law_104 rfl (lv_at hl 2 rfl) ?_
        refine lv_aload_n hx hb d_law_law_105 rfl (lv_at hl 1 rfl) ?_
        refine lv_iload_n hx hb d_law_law_106 rfl (lv_at hl 0 rfl) ?_
        refine lv_iconst (v := 1) hx hb d_law_law_107 (by decide) ?_
        refine lv_iadd hx hb d_law_law_108 ?_
        rw [show ((nI i) + 1) = (nI (i + 1)) from nI_add _ _]
        refine va_sld hx hb hX hbl hbA hw.2.2.2.1 (vp_in_nI (n := i + 1) (by omega) (by omega)) d_law_law_109 ?_
        rw [nI_clamp (n := i + 1) (by omega)]
        refine lv_aload_n hx hb d_law_law_110 rfl (lv_at hl 1 rfl) ?_
        refine lv_iload_n hx hb d_law_law_111 rfl (lv_at hl 0 rfl) ?_
        refine lv_iconst (v := 2) hx hb d_law_law_112 (by decide) ?_
        refine lv_iadd hx hb d_law_law_113 ?_
        rw [show ((nI i) + 2) = (nI (i + 2)) from nI_add _ _]
        refine va_sld hx hb hX hbl hbA hw.2.2.2.1 (vp_in_nI (n := i + 2) (by omega) (by omega)) d_law_law_114 ?_
        rw [nI_clamp (n := i + 2) (by omega)]
        refine x_ci (x_runV (na := 2) (k := 0) (As := [.int (xs (i + 1)), .int (xs (i + 2))]) (rest := []) (ci := 6) ⟨hx, hb, hml, hown, ht⟩ (m_X_document (u := u) (xs (i + 1)) (xs (i + 2)) _) w_172 w_173 w_174 w_1 w_175 (by decide +kernel) ⟨rfl, rfl, Nat.le_of_ble_eq_true rfl, Nat.le_of_ble_eq_true rfl⟩ hw (by decide) o_X rfl rfl hl.1 rfl (Nat.le_of_ble_eq_true rfl) d_law_law_115 ⟨Nat.le_refl _, Nat.le_refl _⟩) hw hA (fun v115 u115 H locs hp hw => ?_)
        have e115 : v115 = (docX u (xs (i + 1)) (xs (i + 2))).1 := congrArg Prod.fst hp
        have hu115 : u115 = (docX u (xs (i + 1)) (xs (i + 2))).2 := congrArg Prod.snd hp
        refine lv_pop hx hb d_law_law_118 rfl ?_
        refine lv_aload_n hx hb d_law_law_119 rfl (lv_at hl 3 rfl) ?_
        refine lv_aload_n hx hb d_law_law_120 rfl (lv_at hl 1 rfl) ?_
        refine lv_iload_n hx hb d_law_law_121 rfl (lv_at hl 0 rfl) ?_
        refine lv_iconst (v := 1) hx hb d_law_law_122 (by decide) ?_
        refine lv_iadd hx hb d_law_law_123 ?_
        rw [show ((nI i) + 1) = (nI (i + 1)) from nI_add _ _]
        refine va_sld hx hb hX hbl hbA hw.2.2.2.1 (vp_in_nI (n := i + 1) (by omega) (by omega)) d_law_law_124 ?_
        rw [nI_clamp (n := i + 1) (by omega)]
        refine lv_aload_n hx hb d_law_law_125 rfl (lv_at hl 1 rfl) ?_
        refine lv_iload_n hx hb d_law_law_126 rfl (lv_at hl 0 rfl) ?_
        refine lv_iconst (v := 2) hx hb d_law_law_127 (by decide) ?_
        refine lv_iadd hx hb d_law_law_128 ?_
        rw [show ((nI i) + 2) = (nI (i + 2)) from nI_add _ _]
        refine va_sld hx hb hX hbl hbA hw.2.2.2.1 (vp_in_nI (n := i + 2) (by omega) (by omega)) d_law_law_129 ?_
        rw [nI_clamp (n := i + 2) (by omega)]
        refine x_ci (x_runV (na := 2) (k := 75) (As := [.int (xs (i + 1)), .int (xs (i + 2))]) (rest := []) (ci := 7) ⟨hx, hb, hml, hown, ht⟩ (m_M_document (u := u115) (xs (i + 1)) (xs (i + 2)) _) w_550 w_551 w_552 w_9 w_553 (by decide +kernel) ⟨rfl, rfl, Nat.le_of_ble_eq_true rfl, Nat.le_of_ble_eq_true rfl⟩ hw (by decide) o_M rfl rfl hl.1 rfl (Nat.le_of_ble_eq_true rfl) d_law_law_130 ⟨Nat.le_refl _, Nat.le_refl _⟩) hw hA (fun v130 u130 H locs hp hw => ?_)
        have e130 : v130 = (docM u115 (xs (i + 1)) (xs (i + 2))).1 := congrArg Prod.fst hp
        have hu130 : u130 = (docM u115 (xs (i + 1)) (xs (i + 2))).2 := congrArg Prod.snd hp
        have hI9 : Jnv u130 := by rw [hu130, hu115]; exact (jnv_doc hI _ _).1
        refine lv_pop hx hb d_law_law_133 rfl ?_
        refine lv_goto (tgt := 619) hx hb d_law_law_134 (by decide) ?_
        refine lv_iinc (v := ((nI i) + 4)) (lv' := [(3, .int ((nI i) + 4)), (0, .ref b), (1, .ref (ad 0)), (2, .ref (ad 75))]) hx hb d_law_law_619 hl (k := 0) rfl rfl (by decide) rfl (fun ls hl => ?_)
        refine lv_goto (tgt := 18) hx hb d_law_law_622 (by decide) ?_
        exact ih18 (i + 4) (u130) (by omega) (hI9) (by omega) _ _ hw ls (by rw [← (show ((nI i) + 4) = (nI (i + 4)) from nI_add i 4)]; exact lv_sub hl [0, 1, 2, 3] rfl)
      by_cases s32_1 : y32 = 1
      · subst s32_1
        refine lv_tableIn (tgt := 137) hx hb d_law_law_32 (by decide) (by decide) rfl (by decide) ?_
        refine lv_aload_n hx hb d_law_law_137 rfl (lv_at hl 2 rfl) ?_
        refine lv_aload_n hx hb d_law_law_138 rfl (lv_at hl 1 rfl) ?_
        refine lv_iload_n hx hb d_law_law_139 rfl (lv_at hl 0 rfl) ?_
        refine lv_iconst (v := 1) hx hb d_law_law_140 (by decide) ?_
        refine lv_iadd hx hb d_law_law_141 ?_
        rw [show ((nI i) + 1) = (nI (i + 1)) from nI_add _ _]
        refine va_sld hx hb hX hbl hbA hw.2.2.2.1 (vp_in_nI (n := i + 1) (by omega) (by omega)) d_law_law_142 ?_
        rw [nI_clamp (n := i + 1) (by omega)]
        refine x_ci (x_runV (na := 1) (k := 0) (As := [.int (xs (i + 1))]) (rest := []) (ci := 6) ⟨hx, hb, hml, hown, ht⟩ (m_X_remove (u := u) (xs (i + 1)) _) w_184 w_185 w_186 w_1 w_187 (by decide +kernel) ⟨rfl, rfl, Nat.le_of_ble_eq_true rfl, Nat.le_of_ble_eq_true rfl⟩ hw (by decide) o_X rfl rfl hl.1 rfl (Nat.le_of_ble_eq_true rfl) d_law_law_143 ⟨Nat.le_refl _, Nat.le_refl _⟩) hw hA (fun v143 u143 H locs hp hw => ?_)
        have e143 : v143 = (remX u (xs (i + 1))).1 := congrArg Prod.fst hp
        have hu143 : u143 = (remX u (xs (i + 1))).2 := congrArg Prod.snd hp
        refine lv_pop hx hb d_law_law_146 rfl ?_
        refine lv_aload_n hx hb d_law_law_147 rfl (lv_at hl 3 rfl) ?_
        refine lv_aload_n hx hb d_law_law_148 rfl (lv_at hl 1 rfl) ?_
        refine lv_iload_n hx hb d_law_law_149 rfl (lv_at hl 0 rfl) ?_
        refine lv_iconst (v := 1) hx hb d_law_law_150 (by decide) ?_
        refine lv_iadd hx hb d_law_law_151 ?_
        rw [show ((nI i) + 1) = (nI (i + 1)) from nI_add _ _]
        refine va_sld hx hb hX hbl hbA hw.2.2.2.1 (vp_in_nI (n := i + 1) (by omega) (by omega)) d_law_law_152 ?_
        rw [nI_clamp (n := i + 1) (by omega)]
        refine x_ci (x_runV (na := 1) (k := 75) (As := [.int (xs (i + 1))]) (rest := []) (ci := 7) ⟨hx, hb, hml, hown, ht⟩ (m_M_remove (u := u143) (xs (i + 1)) _) w_557 w_558 w_559 w_9 w_560 (by decide +kernel) ⟨rfl, rfl, Nat.le_of_ble_eq_true rfl, Nat.le_of_ble_eq_true rfl⟩ hw (by decide) o_M rfl rfl hl.1 rfl (Nat.le_of_ble_eq_true rfl) d_law_law_153 ⟨Nat.le_refl _, Nat.le_refl _⟩) hw hA (fun v153 u153 H locs hp hw => ?_)
        have e153 : v153 = (remM u143 (xs (i + 1))).1 := congrArg Prod.fst hp
        have hu153 : u153 = (remM u143 (xs (i + 1))).2 := congrArg Prod.snd hp
        have hI9 : Jnv u153 := by rw [hu153, hu143]; exact (jnv_rem hI _).1
        refine lv_pop hx hb d_law_law_156 rfl ?_
        refine lv_goto (tgt := 619) hx hb d_law_law_157 (by decide) ?_
        refine lv_iinc (v := ((nI i) + 4)) (lv' := [(3, .int ((nI i) + 4)), (0, .ref b), (1, .ref (ad 0)), (2, .ref (ad 75))]) hx hb d_law_law_619 hl (k := 0) rfl rfl (by decide) rfl (fun ls hl => ?_)
        refine lv_goto (tgt := 18) hx hb d_law_law_622 (by decide) ?_
        exact ih18 (i + 4) (u153) (by omega) (hI9) (by omega) _ _ hw ls (by rw [← (show ((nI i) + 4) = (nI (i + 4)) from nI_add i 4)]; exact lv_sub hl [0, 1, 2, 3] rfl)
      by_cases s32_2 : y32 = 2
      · subst s32_2
        refine lv_tableIn (tgt := 160) hx hb d_law_law_32 (by decide) (by decide) rfl (by decide) ?_
        refine lv_aload_n hx hb d_law_law_160 rfl (lv_at hl 2 rfl) ?_
        refine lv_aload_n hx hb d_law_law_161 rfl (lv_at hl 1 rfl) ?_
        refine lv_iload_n hx hb d_law_law_162 rfl (lv_at hl 0 rfl) ?_
        refine lv_iconst (v := 1) hx hb d_law_law_163 (by decide) ?_
        refine lv_iadd hx hb d_law_law_164 ?_
        rw [show ((nI i) + 1) = (nI (i + 1)) from nI_add _ _]
        refine va_sld hx hb hX hbl hbA hw.2.2.2.1 (vp_in_nI (n := i + 1) (by omega) (by omega)) d_law_law_165 ?_
        rw [nI_clamp (n := i + 1) (by omega)]
        refine lv_aload_n hx hb d_law_law_166 rfl (lv_at hl 1 rfl) ?_
        refine lv_iload_n hx hb d_law_law_167 rfl (lv_at hl 0 rfl) ?_
        refine lv_iconst (v := 2) hx hb d_law_law_168 (by decide) ?_
        refine lv_iadd hx hb d_law_law_169 ?_
        rw [show ((nI i) + 2) = (nI (i + 2)) from nI_add _ _]
        refine va_sld hx hb hX hbl hbA hw.2.2.2.1 (vp_in_nI (n := i + 2) (by omega) (by omega)) d_law_law_170 ?_
        rw [nI_clamp (n := i + 2) (by omega)]
        refine lv_aload_n hx hb d_law_law_171 rfl (lv_at hl 1 rfl) ?_
        refine lv_iload_n hx hb d_law_law_172 rfl (lv_at hl 0 rfl) ?_
        refine lv_iconst (v := 3) hx hb d_law_law_173 (by decide) ?_
        refine lv_iadd hx hb d_law_law_174 ?_
        rw [show ((nI i) + 3) = (nI (i + 3)) from nI_add _ _]
        refine va_sld hx hb hX hbl hbA hw.2.2.2.1 (vp_in_nI (n := i + 3) (by omega) (by omega)) d_law_law_175 ?_
        rw [nI_clamp (n := i + 3) (by omega)]
        refine x_ci (x_runV (na := 3) (k := 0) (As := [.int (xs (i + 1)), .int (xs (i + 2)), .int (xs (i + 3))]) (rest := []) (ci := 6) ⟨hx, hb, hml, hown, ht⟩ (m_X_term (u := u) (xs (i + 1)) (xs (i + 2)) (xs (i + 3)) _) w_197 w_198 w_199 w_1 w_200 (by decide +kernel) ⟨rfl, rfl, Nat.le_of_ble_eq_true rfl, Nat.le_of_ble_eq_true rfl⟩ hw (by decide) o_X rfl rfl hl.1 rfl (Nat.le_of_ble_eq_true rfl) d_law_law_176 ⟨Nat.le_refl _, Nat.le_refl _⟩) hw hA (fun v176 u176 H locs hp hw => ?_)
        have e176 : v176 = (termX u (xs (i + 1)) (xs (i + 2)) (xs (i + 3))).1 := congrArg Prod.fst hp
        have hu176 : u176 = (termX u (xs (i + 1)) (xs (i + 2)) (xs (i + 3))).2 := congrArg Prod.snd hp
        refine lv_pop hx hb d_law_law_179 rfl ?_
        refine lv_aload_n hx hb d_law_law_180 rfl (lv_at hl 3 rfl) ?_
        refine lv_aload_n hx hb d_law_law_181 rfl (lv_at hl 1 rfl) ?_
        refine lv_iload_n hx hb d_law_law_182 rfl (lv_at hl 0 rfl) ?_
        refine lv_iconst (v := 1) hx hb d_law_law_183 (by decide) ?_
        refine lv_iadd hx hb d_law_law_184 ?_
        rw [show ((nI i) + 1) = (nI (i + 1)) from nI_add _ _]
        refine va_sld hx hb hX hbl hbA hw.2.2.2.1 (vp_in_nI (n := i + 1) (by omega) (by omega)) d_law_law_185 ?_
        rw [nI_clamp (n := i + 1) (by omega)]
        refine lv_aload_n hx hb d_law_law_186 rfl (lv_at hl 1 rfl) ?_
        refine lv_iload_n hx hb d_law_law_187 rfl (lv_at hl 0 rfl) ?_
        refine lv_iconst (v := 2) hx hb d_law_law_188 (by decide) ?_
        refine lv_iadd hx hb d_law_law_189 ?_
        rw [show ((nI i) + 2) = (nI (i + 2)) from nI_add _ _]
        refine va_sld hx hb hX hbl hbA hw.2.2.2.1 (vp_in_nI (n := i + 2) (by omega) (by omega)) d_law_law_190 ?_
        rw [nI_clamp (n := i + 2) (by omega)]
        refine lv_aload_n hx hb d_law_law_191 rfl (lv_at hl 1 rfl) ?_
        refine lv_iload_n hx hb d_law_law_192 rfl (lv_at hl 0 rfl) ?_
        refine lv_iconst (v := 3) hx hb d_law_law_193 (by decide) ?_
        refine lv_iadd hx hb d_law_law_194 ?_
        rw [show ((nI i) + 3) = (nI (i + 3)) from nI_add _ _]
        refine va_sld hx hb hX hbl hbA hw.2.2.2.1 (vp_in_nI (n := i + 3) (by omega) (by omega)) d_law_law_195 ?_
        rw [nI_clamp (n := i + 3) (by omega)]
        refine x_ci (x_runV (na := 3) (k := 75) (As := [.int (xs (i + 1)), .int (xs (i + 2)), .int (xs (i + 3))]) (rest := []) (ci := 7) ⟨hx, hb, hml, hown, ht⟩ (m_M_term (u := u176) (xs (i + 1)) (xs (i + 2)) (xs (i + 3)) _) w_565 w_566 w_567 w_9 w_568 (by decide +kernel) ⟨rfl, rfl, Nat.le_of_ble_eq_true rfl, Nat.le_of_ble_eq_true rfl⟩ hw (by decide) o_M rfl rfl hl.1 rfl (Nat.le_of_ble_eq_true rfl) d_law_law_196 ⟨Nat.le_refl _, Nat.le_refl _⟩) hw hA (fun v196 u196 H locs hp hw => ?_)
        have e196 : v196 = (termM u176 (xs (i + 1)) (xs (i + 2)) (xs (i + 3))).1 := congrArg Prod.fst hp
        have hu196 : u196 = (termM u176 (xs (i + 1)) (xs (i + 2)) (xs (i + 3))).2 := congrArg Prod.snd hp
        have hI9 : Jnv u196 := by rw [hu196, hu176]; exact (jnv_term hI _ _ _).1
        refine lv_pop hx hb d_law_law_199 rfl ?_
        refine lv_goto (tgt := 619) hx hb d_law_law_200 (by decide) ?_
        refine lv_iinc (v := ((nI i) + 4)) (lv' := [(3, .int ((nI i) + 4)), (0, .ref b), (1, .ref (ad 0)), (2, .ref (ad 75))]) hx hb d_law_law_619 hl (k := 0) rfl rfl (by decide) rfl (fun ls hl => ?_)
        refine lv_goto (tgt := 18) hx hb d_law_law_622 (by decide) ?_
        exact ih18 (i + 4) (u196) (by omega) (hI9) (by omega) _ _ hw ls (by rw [← (show ((nI i) + 4) = (nI (i + 4)) from nI_add i 4)]; exact lv_sub hl [0, 1, 2, 3] rfl)
      by_cases s32_3 : y32 = 3
      · subst s32_3
        refine lv_tableIn (tgt := 203) hx hb d_law_law_32 (by decide) (by decide) rfl (by decide) ?_
        refine lv_aload_n hx hb d_law_law_203 rfl (lv_at hl 2 rfl) ?_
        refine lv_aload_n hx hb d_law_law_204 rfl (lv_at hl 1 rfl) ?_
        refine lv_iload_n hx hb d_law_law_205 rfl (lv_at hl 0 rfl) ?_
        refine lv_iconst (v := 1) hx hb d_law_law_206 (by decide) ?_
        refine lv_iadd hx hb d_law_law_207 ?_
        rw [show ((nI i) + 1) = (nI (i + 1)) from nI_add _ _]
        refine va_sld hx hb hX hbl hbA hw.2.2.2.1 (vp_in_nI (n := i + 1) (by omega) (by omega)) d_law_law_208 ?_
        rw [nI_clamp (n := i + 1) (by omega)]
        refine lv_aload_n hx hb d_law_law_209 rfl (lv_at hl 1 rfl) ?_
        refine lv_iload_n hx hb d_law_law_210 rfl (lv_at hl 0 rfl) ?_
        refine lv_iconst (v := 2) hx hb d_law_law_211 (by decide) ?_
        refine lv_iadd hx hb d_law_law_212 ?_
        rw [show ((nI i) + 2) = (nI (i + 2)) from nI_add _ _]
        refine va_sld hx hb hX hbl hbA hw.2.2.2.1 (vp_in_nI (n := i + 2) (by omega) (by omega)) d_law_law_213 ?_
        rw [nI_clamp (n := i + 2) (by omega)]
        refine x_ci (x_runV (na := 2) (k := 0) (As := [.int (xs (i + 1)), .int (xs (i + 2))]) (rest := []) (ci := 6) ⟨hx, hb, hml, hown, ht⟩ (m_X_query (u := u) (xs (i + 1)) (xs (i + 2)) _) w_205 w_206 w_207 w_1 w_208 (by decide +kernel) ⟨rfl, rfl, Nat.le_of_ble_eq_true rfl, Nat.le_of_ble_eq_true rfl⟩ hw (by decide) o_X rfl rfl hl.1 rfl (Nat.le_of_ble_eq_true rfl) d_law_law_214 ⟨Nat.le_refl _, Nat.le_refl _⟩) hw hA (fun v214 u214 H locs hp hw => ?_)
        have e214 : v214 = (qryX u (xs (i + 1)) (xs (i + 2))).1 := congrArg Prod.fst hp
        have hu214 : u214 = (qryX u (xs (i + 1)) (xs (i + 2))).2 := congrArg Prod.snd hp
        refine lv_pop hx hb d_law_law_217 rfl ?_
        refine lv_aload_n hx hb d_law_law_218 rfl (lv_at hl 3 rfl) ?_
        refine lv_aload_n hx hb d_law_law_219 rfl (lv_at hl 1 rfl) ?_
        refine lv_iload_n hx hb d_law_law_220 rfl (lv_at hl 0 rfl) ?_
        refine lv_iconst (v := 1) hx hb d_law_law_221 (by decide) ?_
        refine lv_iadd hx hb d_law_law_222 ?_
        rw [show ((nI i) + 1) = (nI (i + 1)) from nI_add _ _]
        refine va_sld hx hb hX hbl hbA hw.2.2.2.1 (vp_in_nI (n := i + 1) (by omega) (by omega)) d_law_law_223 ?_
        rw [nI_clamp (n := i + 1) (by omega)]
        refine lv_aload_n hx hb d_law_law_224 rfl (lv_at hl 1 rfl) ?_
        refine lv_iload_n hx hb d_law_law_225 rfl (lv_at hl 0 rfl) ?_
        refine lv_iconst (v := 2) hx hb d_law_law_226 (by decide) ?_
        refine lv_iadd hx hb d_law_law_227 ?_
        rw [show ((nI i) + 2) = (nI (i + 2)) from nI_add _ _]
        refine va_sld hx hb hX hbl hbA hw.2.2.2.1 (vp_in_nI (n := i + 2) (by omega) (by omega)) d_law_law_228 ?_
        rw [nI_clamp (n := i + 2) (by omega)]
        refine x_ci (x_runV (na := 2) (k := 75) (As := [.int (xs (i + 1)), .int (xs (i + 2))]) (rest := []) (ci := 7) ⟨hx, hb, hml, hown, ht⟩ (m_M_query (u := u214) (xs (i + 1)) (xs (i + 2)) _) w_569 w_570 w_571 w_9 w_572 (by decide +kernel) ⟨rfl, rfl, Nat.le_of_ble_eq_true rfl, Nat.le_of_ble_eq_true rfl⟩ hw (by decide) o_M rfl rfl hl.1 rfl (Nat.le_of_ble_eq_true rfl) d_law_law_229 ⟨Nat.le_refl _, Nat.le_refl _⟩) hw hA (fun v229 u229 H locs hp hw => ?_)
        have e229 : v229 = (qryM u214 (xs (i + 1)) (xs (i + 2))).1 := congrArg Prod.fst hp
        have hu229 : u229 = (qryM u214 (xs (i + 1)) (xs (i + 2))).2 := congrArg Prod.snd hp
        have hI9 : Jnv u229 := by rw [hu229, hu214]; exact (jnv_qry hI _ _).1
        refine lv_pop hx hb d_law_law_232 rfl ?_
        refine lv_goto (tgt := 619) hx hb d_law_law_233 (by decide) ?_
        refine lv_iinc (v := ((nI i) + 4)) (lv' := [(3, .int ((nI i) + 4)), (0, .ref b), (1, .ref (ad 0)), (2, .ref (ad 75))]) hx hb d_law_law_619 hl (k := 0) rfl rfl (by decide) rfl (fun ls hl => ?_)
        refine lv_goto (tgt := 18) hx hb d_law_law_622 (by decide) ?_
        exact ih18 (i + 4) (u229) (by omega) (hI9) (by omega) _ _ hw ls (by rw [← (show ((nI i) + 4) = (nI (i + 4)) from nI_add i 4)]; exact lv_sub hl [0, 1, 2, 3] rfl)
      by_cases s32_4 : y32 = 4
      · subst s32_4
        refine lv_tableIn (tgt := 236) hx hb d_law_law_32 (by decide) (by decide) rfl (by decide) ?_
        refine lv_aload_n hx hb d_law_law_236 rfl (lv_at hl 2 rfl) ?_
        refine lv_aload_n hx hb d_law_law_237 rfl (lv_at hl 1 rfl) ?_
        refine lv_iload_n hx hb d_law_law_238 rfl (lv_at hl 0 rfl) ?_
        refine lv_iconst (v := 1) hx hb d_law_law_239 (by decide) ?_
        refine lv_iadd hx hb d_law_law_240 ?_
        rw [show ((nI i) + 1) = (nI (i + 1)) from nI_add _ _]
        refine va_sld hx hb hX hbl hbA hw.2.2.2.1 (vp_in_nI (n := i + 1) (by omega) (by omega)) d_law_law_241 ?_
        rw [nI_clamp (n := i + 1) (by omega)]
        refine lv_aload_n hx hb d_law_law_242 rfl (lv_at hl 1 rfl) ?_
        refine lv_iload_n hx hb d_law_law_243 rfl (lv_at hl 0 rfl) ?_
        refine lv_iconst (v := 2) hx hb d_law_law_244 (by decide) ?_
        refine lv_iadd hx hb d_law_law_245 ?_
        rw [show ((nI i) + 2) = (nI (i + 2)) from nI_add _ _]
        refine va_sld hx hb hX hbl hbA hw.2.2.2.1 (vp_in_nI (n := i + 2) (by omega) (by omega)) d_law_law_246 ?_
        rw [nI_clamp (n := i + 2) (by omega)]
        refine lv_aload_n hx hb d_law_law_247 rfl (lv_at hl 1 rfl) ?_
        refine lv_iload_n hx hb d_law_law_248 rfl (lv_at hl 0 rfl) ?_
        refine lv_iconst (v := 3) hx hb d_law_law_249 (by decide) ?_
        refine lv_iadd hx hb d_law_law_250 ?_
        rw [show ((nI i) + 3) = (nI (i + 3)) from nI_add _ _]
        refine va_sld hx hb hX hbl hbA hw.2.2.2.1 (vp_in_nI (n := i + 3) (by omega) (by omega)) d_law_law_251 ?_
        rw [nI_clamp (n := i + 3) (by omega)]
        refine x_ci (x_runV (na := 3) (k := 0) (As := [.int (xs (i + 1)), .int (xs (i + 2)), .int (xs (i + 3))]) (rest := []) (ci := 6) ⟨hx, hb, hml, hown, ht⟩ (m_X_judge (u := u) (xs (i + 1)) (xs (i + 2)) (xs (i + 3)) _) w_212 w_213 w_214 w_1 w_215 (by decide +kernel) ⟨rfl, rfl, Nat.le_of_ble_eq_true rfl, Nat.le_of_ble_eq_true rfl⟩ hw (by decide) o_X rfl rfl hl.1 rfl (Nat.le_of_ble_eq_true rfl) d_law_law_252 ⟨Nat.le_refl _, Nat.le_refl _⟩) hw hA (fun v252 u252 H locs hp hw => ?_)
        have e252 : v252 = (judX u (xs (i + 1)) (xs (i + 2)) (xs (i + 3))).1 := congrArg Prod.fst hp
        have hu252 : u252 = (judX u (xs (i + 1)) (xs (i + 2)) (xs (i + 3))).2 := congrArg Prod.snd hp
        refine lv_pop hx hb d_law_law_255 rfl ?_
        refine lv_aload_n hx hb d_law_law_256 rfl (lv_at hl 3 rfl) ?_
        refine lv_aload_n hx hb d_law_law_257 rfl (lv_at hl 1 rfl) ?_
        refine lv_iload_n hx hb d_law_law_258 rfl (lv_at hl 0 rfl) ?_
        refine lv_iconst (v := 1) hx hb d_law_law_259 (by decide) ?_
        refine lv_iadd hx hb d_law_law_260 ?_
        rw [show ((nI i) + 1) = (nI (i + 1)) from nI_add _ _]
        refine va_sld hx hb hX hbl hbA hw.2.2.2.1 (vp_in_nI (n := i + 1) (by omega) (by omega)) d_law_law_261 ?_
        rw [nI_clamp (n := i + 1) (by omega)]
        refine lv_aload_n hx hb d_law_law_262 rfl (lv_at hl 1 rfl) ?_
        refine lv_iload_n hx hb d_law_law_263 rfl (lv_at hl 0 rfl) ?_
        refine lv_iconst (v := 2) hx hb d_law_law_264 (by decide) ?_
        refine lv_iadd hx hb d_law_law_265 ?_
        rw [show ((nI i) + 2) = (nI (i + 2)) from nI_add _ _]
        refine va_sld hx hb hX hbl hbA hw.2.2.2.1 (vp_in_nI (n := i + 2) (by omega) (by omega)) d_law_law_266 ?_
        rw [nI_clamp (n := i + 2) (by omega)]
        refine lv_aload_n hx hb d_law_law_267 rfl (lv_at hl 1 rfl) ?_
        refine lv_iload_n hx hb d_law_law_268 rfl (lv_at hl 0 rfl) ?_
        refine lv_iconst (v := 3) hx hb d_law_law_269 (by decide) ?_
        refine lv_iadd hx hb d_law_law_270 ?_
        rw [show ((nI i) + 3) = (nI (i + 3)) from nI_add _ _]
        refine va_sld hx hb hX hbl hbA hw.2.2.2.1 (vp_in_nI (n := i + 3) (by omega) (by omega)) d_law_law_271 ?_
        rw [nI_clamp (n := i + 3) (by omega)]
        refine x_ci (x_runV (na := 3) (k := 75) (As := [.int (xs (i + 1)), .int (xs (i + 2)), .int (xs (i + 3))]) (rest := []) (ci := 7) ⟨hx, hb, hml, hown, ht⟩ (m_M_judge (u := u252) (xs (i + 1)) (xs (i + 2)) (xs (i + 3)) _) w_573 w_574 w_575 w_9 w_576 (by decide +kernel) ⟨rfl, rfl, Nat.le_of_ble_eq_true rfl, Nat.le_of_ble_eq_true rfl⟩ hw (by decide) o_M rfl rfl hl.1 rfl (Nat.le_of_ble_eq_true rfl) d_law_law_272 ⟨Nat.le_refl _, Nat.le_refl _⟩) hw hA (fun v272 u272 H locs hp hw => ?_)
        have e272 : v272 = (judM u252 (xs (i + 1)) (xs (i + 2)) (xs (i + 3))).1 := congrArg Prod.fst hp
        have hu272 : u272 = (judM u252 (xs (i + 1)) (xs (i + 2)) (xs (i + 3))).2 := congrArg Prod.snd hp
        have hI9 : Jnv u272 := by rw [hu272, hu252]; exact (jnv_jud hI _ _ _).1
        refine lv_pop hx hb d_law_law_275 rfl ?_
        refine lv_goto (tgt := 619) hx hb d_law_law_276 (by decide) ?_
        refine lv_iinc (v := ((nI i) + 4)) (lv' := [(3, .int ((nI i) + 4)), (0, .ref b), (1, .ref (ad 0)), (2, .ref (ad 75))]) hx hb d_law_law_619 hl (k := 0) rfl rfl (by decide) rfl (fun ls hl => ?_)
        refine lv_goto (tgt := 18) hx hb d_law_law_622 (by decide) ?_
        exact ih18 (i + 4) (u272) (by omega) (hI9) (by omega) _ _ hw ls (by rw [← (show ((nI i) + 4) = (nI (i + 4)) from nI_add i 4)]; exact lv_sub hl [0, 1, 2, 3] rfl)
      by_cases s32_5 : y32 = 5
      · subst s32_5
        refine lv_tableIn (tgt := 279) hx hb d_law_law_32 (by decide) (by decide) rfl (by decide) ?_
        refine lv_aload_n hx hb d_law_law_279 rfl (lv_at hl 2 rfl) ?_
        refine lv_aload_n hx hb d_law_law_280 rfl (lv_at hl 1 rfl) ?_
        refine lv_iload_n hx hb d_law_law_281 rfl (lv_at hl 0 rfl) ?_
        refine lv_iconst (v := 1) hx hb d_law_law_282 (by decide) ?_
        refine lv_iadd hx hb d_law_law_283 ?_
        rw [show ((nI i) + 1) = (nI (i + 1)) from nI_add _ _]
        refine va_sld hx hb hX hbl hbA hw.2.2.2.1 (vp_in_nI (n := i + 1) (by omega) (by omega)) d_law_law_284 ?_
        rw [nI_clamp (n := i + 1) (by omega)]
        refine x_ci (x_runV (na := 1) (k := 0) (As := [.int (xs (i + 1))]) (rest := []) (ci := 6) ⟨hx, hb, hml, hown, ht⟩ (m_X_depth (u := u) (xs (i + 1)) _) w_228 w_229 w_230 w_1 w_231 (by decide +kernel) ⟨rfl, rfl, Nat.le_of_ble_eq_true rfl, Nat.le_of_ble_eq_true rfl⟩ hw (by decide) o_X rfl rfl hl.1 rfl (Nat.le_of_ble_eq_true rfl) d_law_law_285 ⟨Nat.le_refl _, Nat.le_refl _⟩) hw hA (fun v285 u285 H locs hp hw => ?_)
        have e285 : v285 = (depX u (xs (i + 1))).1 := congrArg Prod.fst hp
        have hu285 : u285 = (depX u (xs (i + 1))).2 := congrArg Prod.snd hp
        refine lv_pop hx hb d_law_law_288 rfl ?_
        refine lv_aload_n hx hb d_law_law_289 rfl (lv_at hl 3 rfl) ?_
        refine lv_aload_n hx hb d_law_law_290 rfl (lv_at hl 1 rfl) ?_
        refine lv_iload_n hx hb d_law_law_291 rfl (lv_at hl 0 rfl) ?_
        refine lv_iconst (v := 1) hx hb d_law_law_292 (by decide) ?_
        refine lv_iadd hx hb d_law_law_293 ?_
        rw [show ((nI i) + 1) = (nI (i + 1)) from nI_add _ _]
        refine va_sld hx hb hX hbl hbA hw.2.2.2.1 (vp_in_nI (n := i + 1) (by omega) (by omega)) d_law_law_294 ?_
        rw [nI_clamp (n := i + 1) (by omega)]
        refine x_ci (x_runV (na := 1) (k := 75) (As := [.int (xs (i + 1))]) (rest := []) (ci := 7) ⟨hx, hb, hml, hown, ht⟩ (m_M_depth (u := u285) (xs (i + 1)) _) w_581 w_582 w_583 w_9 w_584 (by decide +kernel) ⟨rfl, rfl, Nat.le_of_ble_eq_true rfl, Nat.le_of_ble_eq_true rfl⟩ hw (by decide) o_M rfl rfl hl.1 rfl (Nat.le_of_ble_eq_true rfl) d_law_law_295 ⟨Nat.le_refl _, Nat.le_refl _⟩) hw hA (fun v295 u295 H locs hp hw => ?_)
        have e295 : v295 = (depM u285 (xs (i + 1))).1 := congrArg Prod.fst hp
        have hu295 : u295 = (depM u285 (xs (i + 1))).2 := congrArg Prod.snd hp
        have hI9 : Jnv u295 := by rw [hu295, hu285]; exact (jnv_dep hI _).1
        refine lv_pop hx hb d_law_law_298 rfl ?_
        refine lv_goto (tgt := 619) hx hb d_law_law_299 (by decide) ?_
        refine lv_iinc (v := ((nI i) + 4)) (lv' := [(3, .int ((nI i) + 4)), (0, .ref b), (1, .ref (ad 0)), (2, .ref (ad 75))]) hx hb d_law_law_619 hl (k := 0) rfl rfl (by decide) rfl (fun ls hl => ?_)
        refine lv_goto (tgt := 18) hx hb d_law_law_622 (by decide) ?_
        exact ih18 (i + 4) (u295) (by omega) (hI9) (by omega) _ _ hw ls (by rw [← (show ((nI i) + 4) = (nI (i + 4)) from nI_add i 4)]; exact lv_sub hl [0, 1, 2, 3] rfl)
      by_cases s32_6 : y32 = 6
      · subst s32_6
        refine lv_tableIn (tgt := 302) hx hb d_law_law_32 (by decide) (by decide) rfl (by decide) ?_
        refine lv_aload_n hx hb d_law_law_302 rfl (lv_at hl 2 rfl) ?_
        refine lv_aload_n hx hb d_law_law_303 rfl (lv_at hl 1 rfl) ?_
        refine lv_iload_n hx hb d_law_law_304 rfl (lv_at hl 0 rfl) ?_
        refine lv_iconst (v := 1) hx hb d_law_law_305 (by decide) ?_
        refine lv_iadd hx hb d_law_law_306 ?_
        rw [show ((nI i) + 1) = (nI (i + 1)) from nI_add _ _]
        refine va_sld hx hb hX hbl hbA hw.2.2.2.1 (vp_in_nI (n := i + 1) (by omega) (by omega)) d_law_law_307 ?_
        rw [nI_clamp (n := i + 1) (by omega)]
        refine lv_aload_n hx hb d_law_law_308 rfl (lv_at hl 1 rfl) ?_
        refine lv_iload_n hx hb d_law_law_309 rfl (lv_at hl 0 rfl) ?_
        refine lv_iconst (v := 2) hx hb d_law_law_310 (by decide) ?_
        refine lv_iadd hx hb d_law_law_311 ?_
        rw [show ((nI i) + 2) = (nI (i + 2)) from nI_add _ _]
        refine va_sld hx hb hX hbl hbA hw.2.2.2.1 (vp_in_nI (n := i + 2) (by omega) (by omega)) d_law_law_312 ?_
        rw [nI_clamp (n := i + 2) (by omega)]
        refine lv_aload_n hx hb d_law_law_313 rfl (lv_at hl 1 rfl) ?_
        refine lv_iload_n hx hb d_law_law_314 rfl (lv_at hl 0 rfl) ?_
        refine lv_iconst (v := 3) hx hb d_law_law_315 (by decide) ?_
        refine lv_iadd hx hb d_law_law_316 ?_
        rw [show ((nI i) + 3) = (nI (i + 3)) from nI_add _ _]
        refine va_sld hx hb hX hbl hbA hw.2.2.2.1 (vp_in_nI (n := i + 3) (by omega) (by omega)) d_law_law_317 ?_
        rw [nI_clamp (n := i + 3) (by omega)]
        refine x_ci (x_runV (na := 3) (k := 0) (As := [.int (xs (i + 1)), .int (xs (i + 2)), .int (xs (i + 3))]) (rest := []) (ci := 6) ⟨hx, hb, hml, hown, ht⟩ (m_X_train (u := u) (xs (i + 1)) (xs (i + 2)) (xs (i + 3)) hI.x.nn _) w_232 w_233 w_234 w_1 w_235 (by decide +kernel) ⟨rfl, rfl, Nat.le_of_ble_eq_true rfl, Nat.le_of_ble_eq_true rfl⟩ hw (by decide) o_X rfl rfl hl.1 rfl (Nat.le_of_ble_eq_true rfl) d_law_law_318 ⟨Nat.le_refl _, Nat.le_refl _⟩) hw hA (fun v318 u318 H locs hp hw => ?_)
        have e318 : v318 = (trainX u (xs (i + 1)) (xs (i + 2)) (xs (i + 3))).1 := congrArg Prod.fst hp
        have hu318 : u318 = (trainX u (xs (i + 1)) (xs (i + 2)) (xs (i + 3))).2 := congrArg Prod.snd hp
        have hM : IM u318 := by rw [hu318]; exact hI.m.keep (trainX_ok hI.1 _ _ _).1
        refine lv_pop hx hb d_law_law_321 rfl ?_
        refine lv_aload_n hx hb d_law_law_322 rfl (lv_at hl 3 rfl) ?_
        refine lv_aload_n hx hb d_law_law_323 rfl (lv_at hl 1 rfl) ?_
        refine lv_iload_n hx hb d_law_law_324 rfl (lv_at hl 0 rfl) ?_
        refine lv_iconst (v := 1) hx hb d_law_law_325 (by decide) ?_
        refine lv_iadd hx hb d_law_law_326 ?_
        rw [show ((nI i) + 1) = (nI (i + 1)) from nI_add _ _]
        refine va_sld hx hb hX hbl hbA hw.2.2.2.1 (vp_in_nI (n := i + 1) (by omega) (by omega)) d_law_law_327 ?_
        rw [nI_clamp (n := i + 1) (by omega)]
        refine lv_aload_n hx hb d_law_law_328 rfl (lv_at hl 1 rfl) ?_
        refine lv_iload_n hx hb d_law_law_329 rfl (lv_at hl 0 rfl) ?_
        refine lv_iconst (v := 2) hx hb d_law_law_330 (by decide) ?_
        refine lv_iadd hx hb d_law_law_331 ?_
        rw [show ((nI i) + 2) = (nI (i + 2)) from nI_add _ _]
        refine va_sld hx hb hX hbl hbA hw.2.2.2.1 (vp_in_nI (n := i + 2) (by omega) (by omega)) d_law_law_332 ?_
        rw [nI_clamp (n := i + 2) (by omega)]
        refine lv_aload_n hx hb d_law_law_333 rfl (lv_at hl 1 rfl) ?_
        refine lv_iload_n hx hb d_law_law_334 rfl (lv_at hl 0 rfl) ?_
        refine lv_iconst (v := 3) hx hb d_law_law_335 (by decide) ?_
        refine lv_iadd hx hb d_law_law_336 ?_
        rw [show ((nI i) + 3) = (nI (i + 3)) from nI_add _ _]
        refine va_sld hx hb hX hbl hbA hw.2.2.2.1 (vp_in_nI (n := i + 3) (by omega) (by omega)) d_law_law_337 ?_
        rw [nI_clamp (n := i + 3) (by omega)]
        refine x_ci (x_runV (na := 3) (k := 75) (As := [.int (xs (i + 1)), .int (xs (i + 2)), .int (xs (i + 3))]) (rest := []) (ci := 7) ⟨hx, hb, hml, hown, ht⟩ (m_M_train (u := u318) (xs (i + 1)) (xs (i + 2)) (xs (i + 3)) hM.lv _) w_585 w_586 w_587 w_9 w_588 (by decide +kernel) ⟨rfl, rfl, Nat.le_of_ble_eq_true rfl, Nat.le_of_ble_eq_true rfl⟩ hw (by decide) o_M rfl rfl hl.1 rfl (Nat.le_of_ble_eq_true rfl) d_law_law_338 ⟨Nat.le_refl _, Nat.le_refl _⟩) hw hA (fun v338 u338 H locs hp hw => ?_)
        have e338 : v338 = (trainM u318 (xs (i + 1)) (xs (i + 2)) (xs (i + 3))).1 := congrArg Prod.fst hp
        have hu338 : u338 = (trainM u318 (xs (i + 1)) (xs (i + 2)) (xs (i + 3))).2 := congrArg Prod.snd hp
        have hI9 : Jnv u338 := by rw [hu338, hu318]; exact jnv_train hI _ _ _
        refine lv_pop hx hb d_law_law_341 rfl ?_
        refine lv_goto (tgt := 619) hx hb d_law_law_342 (by decide) ?_
        refine lv_iinc (v := ((nI i) + 4)) (lv' := [(3, .int ((nI i) + 4)), (0, .ref b), (1, .ref (ad 0)), (2, .ref (ad 75))]) hx hb d_law_law_619 hl (k := 0) rfl rfl (by decide) rfl (fun ls hl => ?_)
        refine lv_goto (tgt := 18) hx hb d_law_law_622 (by decide) ?_
        exact ih18 (i + 4) (u338) (by omega) (hI9) (by omega) _ _ hw ls (by rw [← (show ((nI i) + 4) = (nI (i + 4)) from nI_add i 4)]; exact lv_sub hl [0, 1, 2, 3] rfl)
      by_cases s32_7 : y32 = 7
      · subst s32_7
        refine lv_tableIn (tgt := 345) hx hb d_law_law_32 (by decide) (by decide) rfl (by decide) ?_
        refine lv_aload_n hx hb d_law_law_345 rfl (lv_at hl 2 rfl) ?_
        refine lv_aload_n hx hb d_law_law_346 rfl (lv_at hl 1 rfl) ?_
        refine lv_iload_n hx hb d_law_law_347 rfl (lv_at hl 0 rfl) ?_
        refine lv_iconst (v := 1) hx hb d_law_law_348 (by decide) ?_
        refine lv_iadd hx hb d_law_law_349 ?_
        rw [show ((nI i) + 1) = (nI (i + 1)) from nI_add _ _]
        refine va_sld hx hb hX hbl hbA hw.2.2.2.1 (vp_in_nI (n := i + 1) (by omega) (by omega)) d_law_law_350 ?_
        rw [nI_clamp (n := i + 1) (by omega)]
        refine lv_aload_n hx hb d_law_law_351 rfl (lv_at hl 1 rfl) ?_
        refine lv_iload_n hx hb d_law_law_352 rfl (lv_at hl 0 rfl) ?_
        refine lv_iconst (v := 2) hx hb d_law_law_353 (by decide) ?_
        refine lv_iadd hx hb d_law_law_354 ?_
        rw [show ((nI i) + 2) = (nI (i + 2)) from nI_add _ _]
        refine va_sld hx hb hX hbl hbA hw.2.2.2.1 (vp_in_nI (n := i + 2) (by omega) (by omega)) d_law_law_355 ?_
        rw [nI_clamp (n := i + 2) (by omega)]
        refine lv_aload_n hx hb d_law_law_356 rfl (lv_at hl 1 rfl) ?_
        refine lv_iload_n hx hb d_law_law_357 rfl (lv_at hl 0 rfl) ?_
        refine lv_iconst (v := 3) hx hb d_law_law_358 (by decide) ?_
        refine lv_iadd hx hb d_law_law_359 ?_
        rw [show ((nI i) + 3) = (nI (i + 3)) from nI_add _ _]
        refine va_sld hx hb hX hbl hbA hw.2.2.2.1 (vp_in_nI (n := i + 3) (by omega) (by omega)) d_law_law_360 ?_
        rw [nI_clamp (n := i + 3) (by omega)]
        refine x_ci (x_runV (na := 3) (k := 0) (As := [.int (xs (i + 1)), .int (xs (i + 2)), .int (xs (i + 3))]) (rest := []) (ci := 6) ⟨hx, hb, hml, hown, ht⟩ (m_X_feature (u := u) (xs (i + 1)) (xs (i + 2)) (xs (i + 3)) hI.x.nn _) w_352 w_353 w_354 w_1 w_355 (by decide +kernel) ⟨rfl, rfl, Nat.le_of_ble_eq_true rfl, Nat.le_of_ble_eq_true rfl⟩ hw (by decide) o_X rfl rfl hl.1 rfl (Nat.le_of_ble_eq_true rfl) d_law_law_361 ⟨Nat.le_refl _, Nat.le_refl _⟩) hw hA (fun v361 u361 H locs hp hw => ?_)
        have e361 : v361 = (featX u (xs (i + 1)) (xs (i + 2)) (xs (i + 3))).1 := congrArg Prod.fst hp
        have hu361 : u361 = (featX u (xs (i + 1)) (xs (i + 2)) (xs (i + 3))).2 := congrArg Prod.snd hp
        have hI1 : Jnv u361 := by rw [hu361]; exact hI.ox OX_featX
        have hM := hI1.m
        refine lv_pop hx hb d_law_law_364 rfl ?_
        refine lv_aload_n hx hb d_law_law_365 rfl (lv_at hl 3 rfl) ?_
        refine lv_aload_n hx hb d_law_law_366 rfl (lv_at hl 1 rfl) ?_
        refine lv_iload_n hx hb d_law_law_367 rfl (lv_at hl 0 rfl) ?_
        refine lv_iconst (v := 1) hx hb d_law_law_368 (by decide) ?_
        refine lv_iadd hx hb d_law_law_369 ?_
        rw [show ((nI i) + 1) = (nI (i + 1)) from nI_add _ _]
        refine va_sld hx hb hX hbl hbA hw.2.2.2.1 (vp_in_nI (n := i + 1) (by omega) (by omega)) d_law_law_370 ?_
        rw [nI_clamp (n := i + 1) (by omega)]
        refine lv_aload_n hx hb d_law_law_371 rfl (lv_at hl 1 rfl) ?_
        refine lv_iload_n hx hb d_law_law_372 rfl (lv_at hl 0 rfl) ?_
        refine lv_iconst (v := 2) hx hb d_law_law_373 (by decide) ?_
        refine lv_iadd hx hb d_law_law_374 ?_
        rw [show ((nI i) + 2) = (nI (i + 2)) from nI_add _ _]
        refine va_sld hx hb hX hbl hbA hw.2.2.2.1 (vp_in_nI (n := i + 2) (by omega) (by omega)) d_law_law_375 ?_
        rw [nI_clamp (n := i + 2) (by omega)]
        refine lv_aload_n hx hb d_law_law_376 rfl (lv_at hl 1 rfl) ?_
        refine lv_iload_n hx hb d_law_law_377 rfl (lv_at hl 0 rfl) ?_
        refine lv_iconst (v := 3) hx hb d_law_law_378 (by decide) ?_
        refine lv_iadd hx hb d_law_law_379 ?_
        rw [show ((nI i) + 3) = (nI (i + 3)) from nI_add _ _]
        refine va_sld hx hb hX hbl hbA hw.2.2.2.1 (vp_in_nI (n := i + 3) (by omega) (by omega)) d_law_law_380 ?_
        rw [nI_clamp (n := i + 3) (by omega)]
        refine x_ci (x_runV (na := 3) (k := 75) (As := [.int (xs (i + 1)), .int (xs (i + 2)), .int (xs (i + 3))]) (rest := []) (ci := 7) ⟨hx, hb, hml, hown, ht⟩ (m_M_feature (u := u361) (xs (i + 1)) (xs (i + 2)) (xs (i + 3)) _) w_621 w_622 w_623 w_9 w_624 (by decide +kernel) ⟨rfl, rfl, Nat.le_of_ble_eq_true rfl, Nat.le_of_ble_eq_true rfl⟩ hw (by decide) o_M rfl rfl hl.1 rfl (Nat.le_of_ble_eq_true rfl) d_law_law_381 ⟨Nat.le_refl _, Nat.le_refl _⟩) hw hA (fun v381 u381 H locs hp hw => ?_)
        have e381 : v381 = (featM u361 (xs (i + 1)) (xs (i + 2)) (xs (i + 3))).1 := congrArg Prod.fst hp
        have hu381 : u381 = (featM u361 (xs (i + 1)) (xs (i + 2)) (xs (i + 3))).2 := congrArg Prod.snd hp
        have hI9 : Jnv u381 := by rw [hu381]; exact jnv_featM hI1 _ _ _
        refine lv_pop hx hb d_law_law_384 rfl ?_
        refine lv_goto (tgt := 619) hx hb d_law_law_385 (by decide) ?_
        refine lv_iinc (v := ((nI i) + 4)) (lv' := [(3, .int ((nI i) + 4)), (0, .ref b), (1, .ref (ad 0)), (2, .ref (ad 75))]) hx hb d_law_law_619 hl (k := 0) rfl rfl (by decide) rfl (fun ls hl => ?_)
        refine lv_goto (tgt := 18) hx hb d_law_law_622 (by decide) ?_
        exact ih18 (i + 4) (u381) (by omega) (hI9) (by omega) _ _ hw ls (by rw [← (show ((nI i) + 4) = (nI (i + 4)) from nI_add i 4)]; exact lv_sub hl [0, 1, 2, 3] rfl)
      by_cases s32_8 : y32 = 8
      · subst s32_8
        refine lv_tableIn (tgt := 388) hx hb d_law_law_32 (by decide) (by decide) rfl (by decide) ?_
        refine lv_aload_n hx hb d_law_law_388 rfl (lv_at hl 2 rfl) ?_
        refine lv_aload_n hx hb d_law_law_389 rfl (lv_at hl 1 rfl) ?_
        refine lv_iload_n hx hb d_law_law_390 rfl (lv_at hl 0 rfl) ?_
        refine lv_iconst (v := 1) hx hb d_law_law_391 (by decide) ?_
        refine lv_iadd hx hb d_law_law_392 ?_
        rw [show ((nI i) + 1) = (nI (i + 1)) from nI_add _ _]
        refine va_sld hx hb hX hbl hbA hw.2.2.2.1 (vp_in_nI (n := i + 1) (by omega) (by omega)) d_law_law_393 ?_
        rw [nI_clamp (n := i + 1) (by omega)]
        refine lv_aload_n hx hb d_law_law_394 rfl (lv_at hl 1 rfl) ?_
        refine lv_iload_n hx hb d_law_law_395 rfl (lv_at hl 0 rfl) ?_
        refine lv_iconst (v := 2) hx hb d_law_law_396 (by decide) ?_
        refine lv_iadd hx hb d_law_law_397 ?_
        rw [show ((nI i) + 2) = (nI (i + 2)) from nI_add _ _]
        refine va_sld hx hb hX hbl hbA hw.2.2.2.1 (vp_in_nI (n := i + 2) (by omega) (by omega)) d_law_law_398 ?_
        rw [nI_clamp (n := i + 2) (by omega)]
        refine lv_aload_n hx hb d_law_law_399 rfl (lv_at hl 1 rfl) ?_
        refine lv_iload_n hx hb d_law_law_400 rfl (lv_at hl 0 rfl) ?_
        refine lv_iconst (v := 3) hx hb d_law_law_401 (by decide) ?_
        refine lv_iadd hx hb d_law_law_402 ?_
        rw [show ((nI i) + 3) = (nI (i + 3)) from nI_add _ _]
        refine va_sld hx hb hX hbl hbA hw.2.2.2.1 (vp_in_nI (n := i + 3) (by omega) (by omega)) d_law_law_403 ?_
        rw [nI_clamp (n := i + 3) (by omega)]
        refine lv_if_eq (tgt := 411) hx hb d_law_law_404 (by decide) (fun c404 => ?_) (fun c404 => ?_)
        · refine lv_iconst (v := 0) hx hb d_law_law_411 (by decide) ?_
          refine x_ci (x_runV (na := 3) (k := 0) (As := [.int (xs (i + 1)), .int (xs (i + 2)), .int 0]) (rest := []) (ci := 6) ⟨hx, hb, hml, hown, ht⟩ (m_X_ranked (u := u) (xs (i + 1)) (xs (i + 2)) 0 (nX u) hI.x.nn hI.x.n4 hI.x.s2 hI.x.tT hI.x.d0 _) w_356 w_357 w_358 w_1 w_359 (by decide +kernel) ⟨rfl, rfl, Nat.le_of_ble_eq_true rfl, Nat.le_of_ble_eq_true rfl⟩ hw (by decide) o_X rfl rfl hl.1 rfl (Nat.le_of_ble_eq_true rfl) d_law_law_412 ⟨Nat.le_refl _, Nat.le_refl _⟩) hw hA (fun v412 u412 H locs hp hw => ?_)
          have e412 : v412 = (rnkX u (xs (i + 1)) (xs (i + 2)) 0 (nX u)).1 := congrArg Prod.fst hp
          have hu412 : u412 = (rnkX u (xs (i + 1)) (xs (i + 2)) 0 (nX u)).2 := congrArg Prod.snd hp
          have hI1 : Jnv u412 := by rw [hu412]; exact hI.ox (OX_rnkX hI.x.d0)
          have hM := hI1.m
          refine lv_pop hx hb d_law_law_415 rfl ?_
          refine lv_aload_n hx hb d_law_law_416 rfl (lv_at hl 3 rfl) ?_
          refine lv_aload_n hx hb d_law_law_417 rfl (lv_at hl 1 rfl) ?_
          refine lv_iload_n hx hb d_law_law_418 rfl (lv_at hl 0 rfl) ?_
          refine lv_iconst (v := 1) hx hb d_law_law_419 (by decide) ?_
          refine lv_iadd hx hb d_law_law_420 ?_
          rw [show ((nI i) + 1) = (nI (i + 1)) from nI_add _ _]
          refine va_sld hx hb hX hbl hbA hw.2.2.2.1 (vp_in_nI (n := i + 1) (by omega) (by omega)) d_law_law_421 ?_
          rw [nI_clamp (n := i + 1) (by omega)]
          refine lv_aload_n hx hb d_law_law_422 rfl (lv_at hl 1 rfl) ?_
          refine lv_iload_n hx hb d_law_law_423 rfl (lv_at hl 0 rfl) ?_
          refine lv_iconst (v := 2) hx hb d_law_law_424 (by decide) ?_
          refine lv_iadd hx hb d_law_law_425 ?_
          rw [show ((nI i) + 2) = (nI (i + 2)) from nI_add _ _]
          refine va_sld hx hb hX hbl hbA hw.2.2.2.1 (vp_in_nI (n := i + 2) (by omega) (by omega)) d_law_law_426 ?_
          rw [nI_clamp (n := i + 2) (by omega)]
          refine lv_aload_n hx hb d_law_law_427 rfl (lv_at hl 1 rfl) ?_
          refine lv_iload_n hx hb d_law_law_428 rfl (lv_at hl 0 rfl) ?_
          refine lv_iconst (v := 3) hx hb d_law_law_429 (by decide) ?_
          refine lv_iadd hx hb d_law_law_430 ?_
          rw [show ((nI i) + 3) = (nI (i + 3)) from nI_add _ _]
          refine va_sld hx hb hX hbl hbA hw.2.2.2.1 (vp_in_nI (n := i + 3) (by omega) (by omega)) d_law_law_431 ?_
          rw [nI_clamp (n := i + 3) (by omega)]
          refine lv_if_eq (tgt := 439) hx hb d_law_law_432 (by decide) (fun c432 => ?_) (fun c432 => absurd c404 c432)
          refine lv_iconst (v := 0) hx hb d_law_law_439 (by decide) ?_
          refine x_ci (x_runV (na := 3) (k := 75) (As := [.int (xs (i + 1)), .int (xs (i + 2)), .int 0]) (rest := []) (ci := 7) ⟨hx, hb, hml, hown, ht⟩ (m_M_ranked (u := u412) (xs (i + 1)) (xs (i + 2)) 0 (aM u412) (nM u412) hM.a16 hM.s10 hM.c88 hM.n4 hM.s11 hM.k3 _) w_625 w_626 w_627 w_9 w_628 (by decide +kernel) ⟨rfl, rfl, Nat.le_of_ble_eq_true rfl, Nat.le_of_ble_eq_true rfl⟩ hw (by decide) o_M rfl rfl hl.1 rfl (Nat.le_of_ble_eq_true rfl) d_law_law_440 ⟨Nat.le_refl _, Nat.le_refl _⟩) hw hA (fun v440 u440 H locs hp hw => ?_)
          have e440 : v440 = (rnkM u412 (xs (i + 1)) (xs (i + 2)) 0 (aM u412) (nM u412)).1 := congrArg Prod.fst hp
          have hu440 : u440 = (rnkM u412 (xs (i + 1)) (xs (i + 2)) 0 (aM u412) (nM u412)).2 := congrArg Prod.snd hp
          have hI9 : Jnv u440 := by rw [hu440]; exact jnv_rnkM hI1 _ _ _ _
          refine lv_pop hx hb d_law_law_443 rfl ?_
          refine lv_goto (tgt := 619) hx hb d_law_law_444 (by decide) ?_
          refine lv_iinc (v := ((nI i) + 4)) (lv' := [(3, .int ((nI i) + 4)), (0, .ref b), (1, .ref (ad 0)), (2, .ref (ad 75))]) hx hb d_law_law_619 hl (k := 0) rfl rfl (by decide) rfl (fun ls hl => ?_)
          refine lv_goto (tgt := 18) hx hb d_law_law_622 (by decide) ?_
          exact ih18 (i + 4) (u440) (by omega) (hI9) (by omega) _ _ hw ls (by rw [← (show ((nI i) + 4) = (nI (i + 4)) from nI_add i 4)]; exact lv_sub hl [0, 1, 2, 3] rfl)
        · refine lv_iconst (v := 1) hx hb d_law_law_407 (by decide) ?_
          refine lv_goto (tgt := 412) hx hb d_law_law_408 (by decide) ?_
          refine x_ci (x_runV (na := 3) (k := 0) (As := [.int (xs (i + 1)), .int (xs (i + 2)), .int 1]) (rest := []) (ci := 6) ⟨hx, hb, hml, hown, ht⟩ (m_X_ranked (u := u) (xs (i + 1)) (xs (i + 2)) 1 (nX u) hI.x.nn hI.x.n4 hI.x.s2 hI.x.tT hI.x.d0 _) w_356 w_357 w_358 w_1 w_359 (by decide +kernel) ⟨rfl, rfl, Nat.le_of_ble_eq_true rfl, Nat.le_of_ble_eq_true rfl⟩ hw (by decide) o_X rfl rfl hl.1 rfl (Nat.le_of_ble_eq_true rfl) d_law_law_412 ⟨Nat.le_refl _, Nat.le_refl _⟩) hw hA (fun v412 u412 H locs hp hw => ?_)
          have e412 : v412 = (rnkX u (xs (i + 1)) (xs (i + 2)) 1 (nX u)).1 := congrArg Prod.fst hp
          have hu412 : u412 = (rnkX u (xs (i + 1)) (xs (i + 2)) 1 (nX u)).2 := congrArg Prod.snd hp
          have hI1 : Jnv u412 := by rw [hu412]; exact hI.ox (OX_rnkX hI.x.d0)
          have hM := hI1.m
          refine lv_pop hx hb d_law_law_415 rfl ?_
          refine lv_aload_n hx hb d_law_law_416 rfl (lv_at hl 3 rfl) ?_
          refine lv_aload_n hx hb d_law_law_417 rfl (lv_at hl 1 rfl) ?_
          refine lv_iload_n hx hb d_law_law_418 rfl (lv_at hl 0 rfl) ?_
          refine lv_iconst (v := 1) hx hb d_law_law_419 (by decide) ?_
          refine lv_iadd hx hb d_law_law_420 ?_
          rw [show ((nI i) + 1) = (nI (i + 1)) from nI_add _ _]
          refine va_sld hx hb hX hbl hbA hw.2.2.2.1 (vp_in_nI (n := i + 1) (by omega) (by omega)) d_law_law_421 ?_
          rw [nI_clamp (n := i + 1) (by omega)]
          refine lv_aload_n hx hb d_law_law_422 rfl (lv_at hl 1 rfl) ?_
          refine lv_iload_n hx hb d_law_law_423 rfl (lv_at hl 0 rfl) ?_
          refine lv_iconst (v := 2) hx hb d_law_law_424 (by decide) ?_
          refine lv_iadd hx hb d_law_law_425 ?_
          rw [show ((nI i) + 2) = (nI (i + 2)) from nI_add _ _]
          refine va_sld hx hb hX hbl hbA hw.2.2.2.1 (vp_in_nI (n := i + 2) (by omega) (by omega)) d_law_law_426 ?_
          rw [nI_clamp (n := i + 2) (by omega)]
          refine lv_aload_n hx hb d_law_law_427 rfl (lv_at hl 1 rfl) ?_
          refine lv_iload_n hx hb d_law_law_428 rfl (lv_at hl 0 rfl) ?_
          refine lv_iconst (v := 3) hx hb d_law_law_429 (by decide) ?_
          refine lv_iadd hx hb d_law_law_430 ?_
          rw [show ((nI i) + 3) = (nI (i + 3)) from nI_add _ _]
          refine va_sld hx hb hX hbl hbA hw.2.2.2.1 (vp_in_nI (n := i + 3) (by omega) (by omega)) d_law_law_431 ?_
          rw [nI_clamp (n := i + 3) (by omega)]
          refine lv_if_eq (tgt := 439) hx hb d_law_law_432 (by decide) (fun c432 => absurd c432 c404) (fun c432 => ?_)
          refine lv_iconst (v := 1) hx hb d_law_law_435 (by decide) ?_
          refine lv_goto (tgt := 440) hx hb d_law_law_436 (by decide) ?_
          refine x_ci (x_runV (na := 3) (k := 75) (As := [.int (xs (i + 1)), .int (xs (i + 2)), .int 1]) (rest := []) (ci := 7) ⟨hx, hb, hml, hown, ht⟩ (m_M_ranked (u := u412) (xs (i + 1)) (xs (i + 2)) 1 (aM u412) (nM u412) hM.a16 hM.s10 hM.c88 hM.n4 hM.s11 hM.k3 _) w_625 w_626 w_627 w_9 w_628 (by decide +kernel) ⟨rfl, rfl, Nat.le_of_ble_eq_true rfl, Nat.le_of_ble_eq_true rfl⟩ hw (by decide) o_M rfl rfl hl.1 rfl (Nat.le_of_ble_eq_true rfl) d_law_law_440 ⟨Nat.le_refl _, Nat.le_refl _⟩) hw hA (fun v440 u440 H locs hp hw => ?_)
          have e440 : v440 = (rnkM u412 (xs (i + 1)) (xs (i + 2)) 1 (aM u412) (nM u412)).1 := congrArg Prod.fst hp
          have hu440 : u440 = (rnkM u412 (xs (i + 1)) (xs (i + 2)) 1 (aM u412) (nM u412)).2 := congrArg Prod.snd hp
          have hI9 : Jnv u440 := by rw [hu440]; exact jnv_rnkM hI1 _ _ _ _
          refine lv_pop hx hb d_law_law_443 rfl ?_
          refine lv_goto (tgt := 619) hx hb d_law_law_444 (by decide) ?_
          refine lv_iinc (v := ((nI i) + 4)) (lv' := [(3, .int ((nI i) + 4)), (0, .ref b), (1, .ref (ad 0)), (2, .ref (ad 75))]) hx hb d_law_law_619 hl (k := 0) rfl rfl (by decide) rfl (fun ls hl => ?_)
          refine lv_goto (tgt := 18) hx hb d_law_law_622 (by decide) ?_
          exact ih18 (i + 4) (u440) (by omega) (hI9) (by omega) _ _ hw ls (by rw [← (show ((nI i) + 4) = (nI (i + 4)) from nI_add i 4)]; exact lv_sub hl [0, 1, 2, 3] rfl)
      by_cases s32_9 : y32 = 9
      · subst s32_9
        refine lv_tableIn (tgt := 447) hx hb d_law_law_32 (by decide) (by decide) rfl (by decide) ?_
        refine lv_aload_n hx hb d_law_law_447 rfl (lv_at hl 2 rfl) ?_
        refine lv_aload_n hx hb d_law_law_448 rfl (lv_at hl 1 rfl) ?_
        refine lv_iload_n hx hb d_law_law_449 rfl (lv_at hl 0 rfl) ?_
        refine lv_iconst (v := 1) hx hb d_law_law_450 (by decide) ?_
        refine lv_iadd hx hb d_law_law_451 ?_
        rw [show ((nI i) + 1) = (nI (i + 1)) from nI_add _ _]
        refine va_sld hx hb hX hbl hbA hw.2.2.2.1 (vp_in_nI (n := i + 1) (by omega) (by omega)) d_law_law_452 ?_
        rw [nI_clamp (n := i + 1) (by omega)]
        refine lv_aload_n hx hb d_law_law_453 rfl (lv_at hl 1 rfl) ?_
        refine lv_iload_n hx hb d_law_law_454 rfl (lv_at hl 0 rfl) ?_
        refine lv_iconst (v := 2) hx hb d_law_law_455 (by decide) ?_
        refine lv_iadd hx hb d_law_law_456 ?_
        rw [show ((nI i) + 2) = (nI (i + 2)) from nI_add _ _]
        refine va_sld hx hb hX hbl hbA hw.2.2.2.1 (vp_in_nI (n := i + 2) (by omega) (by omega)) d_law_law_457 ?_
        rw [nI_clamp (n := i + 2) (by omega)]
        refine x_cl (x_runV (na := 2) (k := 0) (As := [.int (xs (i + 1)), .int (xs (i + 2))]) (rest := []) (ci := 6) ⟨hx, hb, hml, hown, ht⟩ (m_X_score (u := u) (xs (i + 1)) (xs (i + 2)) (nX u) hI.x.nn hI.x.n4 hI.x.s2 hI.x.tT _) w_398 w_399 w_400 w_1 w_401 (by decide +kernel) ⟨rfl, rfl, Nat.le_of_ble_eq_true rfl, Nat.le_of_ble_eq_true rfl⟩ hw (by decide) o_X rfl rfl hl.1 rfl (Nat.le_of_ble_eq_true rfl) d_law_law_458 ⟨Nat.le_refl _, Nat.le_refl _⟩) hw hA (fun v458 u458 H locs hp hw => ?_)
        have e458 : v458 = (scoX u (xs (i + 1)) (xs (i + 2)) (nX u)).1 := congrArg Prod.fst hp
        have hu458 : u458 = (scoX u (xs (i + 1)) (xs (i + 2)) (nX u)).2 := congrArg Prod.snd hp
        have hI1 : Jnv u458 := by rw [hu458]; exact hI.ox OX_scoX
        have hM := hI1.m
        refine lv_pop2_2 hx hb d_law_law_461 rfl ?_
        refine lv_aload_n hx hb d_law_law_462 rfl (lv_at hl 3 rfl) ?_
        refine lv_aload_n hx hb d_law_law_463 rfl (lv_at hl 1 rfl) ?_
        refine lv_iload_n hx hb d_law_law_464 rfl (lv_at hl 0 rfl) ?_
        refine lv_iconst (v := 1) hx hb d_law_law_465 (by decide) ?_
        refine lv_iadd hx hb d_law_law_466 ?_
        rw [show ((nI i) + 1) = (nI (i + 1)) from nI_add _ _]
        refine va_sld hx hb hX hbl hbA hw.2.2.2.1 (vp_in_nI (n := i + 1) (by omega) (by omega)) d_law_law_467 ?_
        rw [nI_clamp (n := i + 1) (by omega)]
        refine lv_aload_n hx hb d_law_law_468 rfl (lv_at hl 1 rfl) ?_
        refine lv_iload_n hx hb d_law_law_469 rfl (lv_at hl 0 rfl) ?_
        refine lv_iconst (v := 2) hx hb d_law_law_470 (by decide) ?_
        refine lv_iadd hx hb d_law_law_471 ?_
        rw [show ((nI i) + 2) = (nI (i + 2)) from nI_add _ _]
        refine va_sld hx hb hX hbl hbA hw.2.2.2.1 (vp_in_nI (n := i + 2) (by omega) (by omega)) d_law_law_472 ?_
        rw [nI_clamp (n := i + 2) (by omega)]
        refine x_cl (x_runV (na := 2) (k := 75) (As := [.int (xs (i + 1)), .int (xs (i + 2))]) (rest := []) (ci := 7) ⟨hx, hb, hml, hown, ht⟩ (m_M_score (u := u458) (xs (i + 1)) (xs (i + 2)) (nM u458) hM.n4 hM.s11 hM.k3 _) w_645 w_646 w_647 w_9 w_648 (by decide +kernel) ⟨rfl, rfl, Nat.le_of_ble_eq_true rfl, Nat.le_of_ble_eq_true rfl⟩ hw (by decide) o_M rfl rfl hl.1 rfl (Nat.le_of_ble_eq_true rfl) d_law_law_473 ⟨Nat.le_refl _, Nat.le_refl _⟩) hw hA (fun v473 u473 H locs hp hw => ?_)
        have e473 : v473 = (scoM u458 (xs (i + 1)) (xs (i + 2)) (nM u458)).1 := congrArg Prod.fst hp
        have hu473 : u473 = (scoM u458 (xs (i + 1)) (xs (i + 2)) (nM u458)).2 := congrArg Prod.snd hp
        have hI9 : Jnv u473 := by rw [hu473]; exact jnv_scoM hI1 _ _ _
        refine lv_pop2_2 hx hb d_law_law_476 rfl ?_
        refine lv_goto (tgt := 619) hx hb d_law_law_477 (by decide) ?_
        refine lv_iinc (v := ((nI i) + 4)) (lv' := [(3, .int ((nI i) + 4)), (0, .ref b), (1, .ref (ad 0)), (2, .ref (ad 75))]) hx hb d_law_law_619 hl (k := 0) rfl rfl (by decide) rfl (fun ls hl => ?_)
        refine lv_goto (tgt := 18) hx hb d_law_law_622 (by decide) ?_
        exact ih18 (i + 4) (u473) (by omega) (hI9) (by omega) _ _ hw ls (by rw [← (show ((nI i) + 4) = (nI (i + 4)) from nI_add i 4)]; exact lv_sub hl [0, 1, 2, 3] rfl)
      by_cases s32_10 : y32 = 10
      · subst s32_10
        refine lv_tableIn (tgt := 480) hx hb d_law_law_32 (by decide) (by decide) rfl (by decide) ?_
        refine lv_aload_n hx hb d_law_law_480 rfl (lv_at hl 2 rfl) ?_
        refine lv_aload_n hx hb d_law_law_481 rfl (lv_at hl 1 rfl) ?_
        refine lv_iload_n hx hb d_law_law_482 rfl (lv_at hl 0 rfl) ?_
        refine lv_iconst (v := 1) hx hb d_law_law_483 (by decide) ?_
        refine lv_iadd hx hb d_law_law_484 ?_
        rw [show ((nI i) + 1) = (nI (i + 1)) from nI_add _ _]
        refine va_sld hx hb hX hbl hbA hw.2.2.2.1 (vp_in_nI (n := i + 1) (by omega) (by omega)) d_law_law_485 ?_
        rw [nI_clamp (n := i + 1) (by omega)]
        refine lv_aload_n hx hb d_law_law_486 rfl (lv_at hl 1 rfl) ?_
        refine lv_iload_n hx hb d_law_law_487 rfl (lv_at hl 0 rfl) ?_
        refine lv_iconst (v := 2) hx hb d_law_law_488 (by decide) ?_
        refine lv_iadd hx hb d_law_law_489 ?_
        rw [show ((nI i) + 2) = (nI (i + 2)) from nI_add _ _]
        refine va_sld hx hb hX hbl hbA hw.2.2.2.1 (vp_in_nI (n := i + 2) (by omega) (by omega)) d_law_law_490 ?_
        rw [nI_clamp (n := i + 2) (by omega)]
        refine lv_if_eq (tgt := 498) hx hb d_law_law_491 (by decide) (fun c491 => ?_) (fun c491 => ?_)
        · refine lv_iconst (v := 0) hx hb d_law_law_498 (by decide) ?_
          refine x_cl (x_runV (na := 2) (k := 0) (As := [.int (xs (i + 1)), .int 0]) (rest := []) (ci := 6) ⟨hx, hb, hml, hown, ht⟩ (m_X_merit (u := u) (xs (i + 1)) 0 (nX u) hI.x.nn hI.x.n4 hI.x.s2 hI.x.tT hI.x.d0 _) w_403 w_404 w_405 w_1 w_406 (by decide +kernel) ⟨rfl, rfl, Nat.le_of_ble_eq_true rfl, Nat.le_of_ble_eq_true rfl⟩ hw (by decide) o_X rfl rfl hl.1 rfl (Nat.le_of_ble_eq_true rfl) d_law_law_499 ⟨Nat.le_refl _, Nat.le_refl _⟩) hw hA (fun v499 u499 H locs hp hw => ?_)
          have e499 : v499 = (merX u (xs (i + 1)) 0 (nX u)).1 := congrArg Prod.fst hp
          have hu499 : u499 = (merX u (xs (i + 1)) 0 (nX u)).2 := congrArg Prod.snd hp
          have hI1 : Jnv u499 := by rw [hu499]; exact hI.ox (OX_merX hI.x.d0)
          have hM := hI1.m
          refine lv_aload_n hx hb d_law_law_502 rfl (lv_at hl 3 rfl) ?_
          refine lv_aload_n hx hb d_law_law_503 rfl (lv_at hl 1 rfl) ?_
          refine lv_iload_n hx hb d_law_law_504 rfl (lv_at hl 0 rfl) ?_
          refine lv_iconst (v := 1) hx hb d_law_law_505 (by decide) ?_
          refine lv_iadd hx hb d_law_law_506 ?_
          rw [show ((nI i) + 1) = (nI (i + 1)) from nI_add _ _]
          refine va_sld hx hb hX hbl hbA hw.2.2.2.1 (vp_in_nI (n := i + 1) (by omega) (by omega)) d_law_law_507 ?_
          rw [nI_clamp (n := i + 1) (by omega)]
          refine lv_aload_n hx hb d_law_law_508 rfl (lv_at hl 1 rfl) ?_
          refine lv_iload_n hx hb d_law_law_509 rfl (lv_at hl 0 rfl) ?_
          refine lv_iconst (v := 2) hx hb d_law_law_510 (by decide) ?_
          refine lv_iadd hx hb d_law_law_511 ?_
          rw [show ((nI i) + 2) = (nI (i + 2)) from nI_add _ _]
          refine va_sld hx hb hX hbl hbA hw.2.2.2.1 (vp_in_nI (n := i + 2) (by omega) (by omega)) d_law_law_512 ?_
          rw [nI_clamp (n := i + 2) (by omega)]
          refine lv_if_eq (tgt := 520) hx hb d_law_law_513 (by decide) (fun c513 => ?_) (fun c513 => absurd c491 c513)
          refine lv_iconst (v := 0) hx hb d_law_law_520 (by decide) ?_
          refine x_cl (x_runV (na := 2) (k := 75) (As := [.int (xs (i + 1)), .int 0]) (rest := [.long v499]) (ci := 7) ⟨hx, hb, hml, hown, ht⟩ (m_M_merit (u := u499) (xs (i + 1)) 0 (aM u499) (nM u499) hM.a16 hM.s10 hM.c88 hM.n4 hM.s11 hM.k3 hM.c89 hM.g7 _) w_650 w_651 w_652 w_9 w_653 (by decide +kernel) ⟨rfl, rfl, Nat.le_of_ble_eq_true rfl, Nat.le_of_ble_eq_true rfl⟩ hw (by decide) o_M rfl rfl hl.1 rfl (Nat.le_of_ble_eq_true rfl) d_law_law_521 ⟨Nat.le_refl _, Nat.le_refl _⟩) hw hA (fun v521 u521 H locs hp hw => ?_)
          have e521 : v521 = (merM u499 (xs (i + 1)) 0 (aM u499) (nM u499)).1 := congrArg Prod.fst hp
          have hu521 : u521 = (merM u499 (xs (i + 1)) 0 (aM u499) (nM u499)).2 := congrArg Prod.snd hp
          have hI9 : Jnv u521 := by rw [hu521]; exact jnv_merM hI1 _ _ _
          refine W.lcmp hx hb d_law_law_524 ?_
          refine lv_if_eq (tgt := 619) hx hb d_law_law_525 (by decide) (fun c525 => ?_) (fun c525 => absurd ((lg_cmp_eq _ _).mpr (show v499 = v521 by rw [e499, e521, hu499]; exact ans_merit hI _ _)) c525)
          refine lv_iinc (v := ((nI i) + 4)) (lv' := [(3, .int ((nI i) + 4)), (0, .ref b), (1, .ref (ad 0)), (2, .ref (ad 75))]) hx hb d_law_law_619 hl (k := 0) rfl rfl (by decide) rfl (fun ls hl => ?_)
          refine lv_goto (tgt := 18) hx hb d_law_law_622 (by decide) ?_
          exact ih18 (i + 4) (u521) (by omega) (hI9) (by omega) _ _ hw ls (by rw [← (show ((nI i) + 4) = (nI (i + 4)) from nI_add i 4)]; exact lv_sub hl [0, 1, 2, 3] rfl)
        · refine lv_iconst (v := 1) hx hb d_law_law_494 (by decide) ?_
          refine lv_goto (tgt := 499) hx hb d_law_law_495 (by decide) ?_
          refine x_cl (x_runV (na := 2) (k := 0) (As := [.int (xs (i + 1)), .int 1]) (rest := []) (ci := 6) ⟨hx, hb, hml, hown, ht⟩ (m_X_merit (u := u) (xs (i + 1)) 1 (nX u) hI.x.nn hI.x.n4 hI.x.s2 hI.x.tT hI.x.d0 _) w_403 w_404 w_405 w_1 w_406 (by decide +kernel) ⟨rfl, rfl, Nat.le_of_ble_eq_true rfl, Nat.le_of_ble_eq_true rfl⟩ hw (by decide) o_X rfl rfl hl.1 rfl (Nat.le_of_ble_eq_true rfl) d_law_law_499 ⟨Nat.le_refl _, Nat.le_refl _⟩) hw hA (fun v499 u499 H locs hp hw => ?_)
          have e499 : v499 = (merX u (xs (i + 1)) 1 (nX u)).1 := congrArg Prod.fst hp
          have hu499 : u499 = (merX u (xs (i + 1)) 1 (nX u)).2 := congrArg Prod.snd hp
          have hI1 : Jnv u499 := by rw [hu499]; exact hI.ox (OX_merX hI.x.d0)
          have hM := hI1.m
          refine lv_aload_n hx hb d_law_law_502 rfl (lv_at hl 3 rfl) ?_
          refine lv_aload_n hx hb d_law_law_503 rfl (lv_at hl 1 rfl) ?_
          refine lv_iload_n hx hb d_law_law_504 rfl (lv_at hl 0 rfl) ?_
          refine lv_iconst (v := 1) hx hb d_law_law_505 (by decide) ?_
          refine lv_iadd hx hb d_law_law_506 ?_
          rw [show ((nI i) + 1) = (nI (i + 1)) from nI_add _ _]
          refine va_sld hx hb hX hbl hbA hw.2.2.2.1 (vp_in_nI (n := i + 1) (by omega) (by omega)) d_law_law_507 ?_
          rw [nI_clamp (n := i + 1) (by omega)]
          refine lv_aload_n hx hb d_law_law_508 rfl (lv_at hl 1 rfl) ?_
          refine lv_iload_n hx hb d_law_law_509 rfl (lv_at hl 0 rfl) ?_
          refine lv_iconst (v := 2) hx hb d_law_law_510 (by decide) ?_
          refine lv_iadd hx hb d_law_law_511 ?_
          rw [show ((nI i) + 2) = (nI (i + 2)) from nI_add _ _]
          refine va_sld hx hb hX hbl hbA hw.2.2.2.1 (vp_in_nI (n := i + 2) (by omega) (by omega)) d_law_law_512 ?_
          rw [nI_clamp (n := i + 2) (by omega)]
          refine lv_if_eq (tgt := 520) hx hb d_law_law_513 (by decide) (fun c513 => absurd c513 c491) (fun c513 => ?_)
          refine lv_iconst (v := 1) hx hb d_law_law_516 (by decide) ?_
          refine lv_goto (tgt := 521) hx hb d_law_law_517 (by decide) ?_
          refine x_cl (x_runV (na := 2) (k := 75) (As := [.int (xs (i + 1)), .int 1]) (rest := [.long v499]) (ci := 7) ⟨hx, hb, hml, hown, ht⟩ (m_M_merit (u := u499) (xs (i + 1)) 1 (aM u499) (nM u499) hM.a16 hM.s10 hM.c88 hM.n4 hM.s11 hM.k3 hM.c89 hM.g7 _) w_650 w_651 w_652 w_9 w_653 (by decide +kernel) ⟨rfl, rfl, Nat.le_of_ble_eq_true rfl, Nat.le_of_ble_eq_true rfl⟩ hw (by decide) o_M rfl rfl hl.1 rfl (Nat.le_of_ble_eq_true rfl) d_law_law_521 ⟨Nat.le_refl _, Nat.le_refl _⟩) hw hA (fun v521 u521 H locs hp hw => ?_)
          have e521 : v521 = (merM u499 (xs (i + 1)) 1 (aM u499) (nM u499)).1 := congrArg Prod.fst hp
          have hu521 : u521 = (merM u499 (xs (i + 1)) 1 (aM u499) (nM u499)).2 := congrArg Prod.snd hp
          have hI9 : Jnv u521 := by rw [hu521]; exact jnv_merM hI1 _ _ _
          refine W.lcmp hx hb d_law_law_524 ?_
          refine lv_if_eq (tgt := 619) hx hb d_law_law_525 (by decide) (fun c525 => ?_) (fun c525 => absurd ((lg_cmp_eq _ _).mpr (show v499 = v521 by rw [e499, e521, hu499]; exact ans_merit hI _ _)) c525)
          refine lv_iinc (v := ((nI i) + 4)) (lv' := [(3, .int ((nI i) + 4)), (0, .ref b), (1, .ref (ad 0)), (2, .ref (ad 75))]) hx hb d_law_law_619 hl (k := 0) rfl rfl (by decide) rfl (fun ls hl => ?_)
          refine lv_goto (tgt := 18) hx hb d_law_law_622 (by decide) ?_
          exact ih18 (i + 4) (u521) (by omega) (hI9) (by omega) _ _ hw ls (by rw [← (show ((nI i) + 4) = (nI (i + 4)) from nI_add i 4)]; exact lv_sub hl [0, 1, 2, 3] rfl)
      by_cases s32_11 : y32 = 11
      · subst s32_11
        refine lv_tableIn (tgt := 530) hx hb d_law_law_32 (by decide) (by decide) rfl (by decide) ?_
        refine lv_aload_n hx hb d_law_law_530 rfl (lv_at hl 2 rfl) ?_
        refine lv_aload_n hx hb d_law_law_531 rfl (lv_at hl 1 rfl) ?_
        refine lv_iload_n hx hb d_law_law_532 rfl (lv_at hl 0 rfl) ?_
        refine lv_iconst (v := 1) hx hb d_law_law_533 (by decide) ?_
        refine lv_iadd hx hb d_law_law_534 ?_
        rw [show ((nI i) + 1) = (nI (i + 1)) from nI_add _ _]
        refine va_sld hx hb hX hbl hbA hw.2.2.2.1 (vp_in_nI (n := i + 1) (by omega) (by omega)) d_law_law_535 ?_
        rw [nI_clamp (n := i + 1) (by omega)]
        refine x_cl (x_runV (na := 1) (k := 0) (As := [.int (xs (i + 1))]) (rest := []) (ci := 6) ⟨hx, hb, hml, hown, ht⟩ (m_X_rest (u := u) (xs (i + 1)) (nX u) hI.x.nn hI.x.n4 hI.x.s2 hI.x.tT _) w_408 w_409 w_410 w_1 w_411 (by decide +kernel) ⟨rfl, rfl, Nat.le_of_ble_eq_true rfl, Nat.le_of_ble_eq_true rfl⟩ hw (by decide) o_X rfl rfl hl.1 rfl (Nat.le_of_ble_eq_true rfl) d_law_law_536 ⟨Nat.le_refl _, Nat.le_refl _⟩) hw hA (fun v536 u536 H locs hp hw => ?_)
        have e536 : v536 = (rstX u (xs (i + 1)) (nX u)).1 := congrArg Prod.fst hp
        have hu536 : u536 = (rstX u (xs (i + 1)) (nX u)).2 := congrArg Prod.snd hp
        have hI1 : Jnv u536 := by rw [hu536]; exact hI.ox OX_rstX
        have hM := hI1.m
        refine lv_pop2_2 hx hb d_law_law_539 rfl ?_
        refine lv_aload_n hx hb d_law_law_540 rfl (lv_at hl 3 rfl) ?_
        refine lv_aload_n hx hb d_law_law_541 rfl (lv_at hl 1 rfl) ?_
        refine lv_iload_n hx hb d_law_law_542 rfl (lv_at hl 0 rfl) ?_
        refine lv_iconst (v := 1) hx hb d_law_law_543 (by decide) ?_
        refine lv_iadd hx hb d_law_law_544 ?_
        rw [show ((nI i) + 1) = (nI (i + 1)) from nI_add _ _]
        refine va_sld hx hb hX hbl hbA hw.2.2.2.1 (vp_in_nI (n := i + 1) (by omega) (by omega)) d_law_law_545 ?_
        rw [nI_clamp (n := i + 1) (by omega)]
        refine x_cl (x_runV (na := 1) (k := 75) (As := [.int (xs (i + 1))]) (rest := []) (ci := 7) ⟨hx, hb, hml, hown, ht⟩ (m_M_rest (u := u536) (xs (i + 1)) (nM u536) hM.n4 hM.s11 hM.k3 _) w_655 w_656 w_657 w_9 w_658 (by decide +kernel) ⟨rfl, rfl, Nat.le_of_ble_eq_true rfl, Nat.le_of_ble_eq_true rfl⟩ hw (by decide) o_M rfl rfl hl.1 rfl (Nat.le_of_ble_eq_true rfl) d_law_law_546 ⟨Nat.le_refl _, Nat.le_refl _⟩) hw hA (fun v546 u546 H locs hp hw => ?_)
        have e546 : v546 = (rstM u536 (xs (i + 1)) (nM u536)).1 := congrArg Prod.fst hp
        have hu546 : u546 = (rstM u536 (xs (i + 1)) (nM u536)).2 := congrArg Prod.snd hp
        have hI9 : Jnv u546 := by rw [hu546]; exact hI1
        refine lv_pop2_2 hx hb d_law_law_549 rfl ?_
        refine lv_goto (tgt := 619) hx hb d_law_law_550 (by decide) ?_
        refine lv_iinc (v := ((nI i) + 4)) (lv' := [(3, .int ((nI i) + 4)), (0, .ref b), (1, .ref (ad 0)), (2, .ref (ad 75))]) hx hb d_law_law_619 hl (k := 0) rfl rfl (by decide) rfl (fun ls hl => ?_)
        refine lv_goto (tgt := 18) hx hb d_law_law_622 (by decide) ?_
        exact ih18 (i + 4) (u546) (by omega) (hI9) (by omega) _ _ hw ls (by rw [← (show ((nI i) + 4) = (nI (i + 4)) from nI_add i 4)]; exact lv_sub hl [0, 1, 2, 3] rfl)
      by_cases s32_12 : y32 = 12
      · subst s32_12
        refine lv_tableIn (tgt := 553) hx hb d_law_law_32 (by decide) (by decide) rfl (by decide) ?_
        refine lv_aload_n hx hb d_law_law_553 rfl (lv_at hl 2 rfl) ?_
        refine lv_aload_n hx hb d_law_law_554 rfl (lv_at hl 1 rfl) ?_
        refine lv_iload_n hx hb d_law_law_555 rfl (lv_at hl 0 rfl) ?_
        refine lv_iconst (v := 1) hx hb d_law_law_556 (by decide) ?_
        refine lv_iadd hx hb d_law_law_557 ?_
        rw [show ((nI i) + 1) = (nI (i + 1)) from nI_add _ _]
        refine va_sld hx hb hX hbl hbA hw.2.2.2.1 (vp_in_nI (n := i + 1) (by omega) (by omega)) d_law_law_558 ?_
        rw [nI_clamp (n := i + 1) (by omega)]
        refine lv_aload_n hx hb d_law_law_559 rfl (lv_at hl 1 rfl) ?_
        refine lv_iload_n hx hb d_law_law_560 rfl (lv_at hl 0 rfl) ?_
        refine lv_iconst (v := 2) hx hb d_law_law_561 (by decide) ?_
        refine lv_iadd hx hb d_law_law_562 ?_
        rw [show ((nI i) + 2) = (nI (i + 2)) from nI_add _ _]
        refine va_sld hx hb hX hbl hbA hw.2.2.2.1 (vp_in_nI (n := i + 2) (by omega) (by omega)) d_law_law_563 ?_
        rw [nI_clamp (n := i + 2) (by omega)]
        refine lv_aload_n hx hb d_law_law_564 rfl (lv_at hl 1 rfl) ?_
        refine lv_iload_n hx hb d_law_law_565 rfl (lv_at hl 0 rfl) ?_
        refine lv_iconst (v := 3) hx hb d_law_law_566 (by decide) ?_
        refine lv_iadd hx hb d_law_law_567 ?_
        rw [show ((nI i) + 3) = (nI (i + 3)) from nI_add _ _]
        refine va_sld hx hb hX hbl hbA hw.2.2.2.1 (vp_in_nI (n := i + 3) (by omega) (by omega)) d_law_law_568 ?_
        rw [nI_clamp (n := i + 3) (by omega)]
        refine x_cl (x_runV (na := 3) (k := 0) (As := [.int (xs (i + 1)), .int (xs (i + 2)), .int (xs (i + 3))]) (rest := []) (ci := 6) ⟨hx, hb, hml, hown, ht⟩ (m_X_node (u := u) (xs (i + 1)) (xs (i + 2)) (xs (i + 3)) (nX u) hI.x.n4 hI.x.s2 _) w_417 w_418 w_419 w_1 w_420 (by decide +kernel) ⟨rfl, rfl, Nat.le_of_ble_eq_true rfl, Nat.le_of_ble_eq_true rfl⟩ hw (by decide) o_X rfl rfl hl.1 rfl (Nat.le_of_ble_eq_true rfl) d_law_law_569 ⟨Nat.le_refl _, Nat.le_refl _⟩) hw hA (fun v569 u569 H locs hp hw => ?_)
        have e569 : v569 = (nodX u (xs (i + 1)) (xs (i + 2)) (xs (i + 3)) (nX u)).1 := congrArg Prod.fst hp
        have hu569 : u569 = (nodX u (xs (i + 1)) (xs (i + 2)) (xs (i + 3)) (nX u)).2 := congrArg Prod.snd hp
        have hI1 : Jnv u569 := by rw [hu569]; exact hI.ox OX_nodX
        have hM := hI1.m
        refine lv_pop2_2 hx hb d_law_law_572 rfl ?_
        refine lv_aload_n hx hb d_law_law_573 rfl (lv_at hl 3 rfl) ?_
        refine lv_aload_n hx hb d_law_law_574 rfl (lv_at hl 1 rfl) ?_
        refine lv_iload_n hx hb d_law_law_575 rfl (lv_at hl 0 rfl) ?_
        refine lv_iconst (v := 1) hx hb d_law_law_576 (by decide) ?_
        refine lv_iadd hx hb d_law_law_577 ?_
        rw [show ((nI i) + 1) = (nI (i + 1)) from nI_add _ _]
        refine va_sld hx hb hX hbl hbA hw.2.2.2.1 (vp_in_nI (n := i + 1) (by omega) (by omega)) d_law_law_578 ?_
        rw [nI_clamp (n := i + 1) (by omega)]
        refine lv_aload_n hx hb d_law_law_579 rfl (lv_at hl 1 rfl) ?_
        refine lv_iload_n hx hb d_law_law_580 rfl (lv_at hl 0 rfl) ?_
        refine lv_iconst (v := 2) hx hb d_law_law_581 (by decide) ?_
        refine lv_iadd hx hb d_law_law_582 ?_
        rw [show ((nI i) + 2) = (nI (i + 2)) from nI_add _ _]
        refine va_sld hx hb hX hbl hbA hw.2.2.2.1 (vp_in_nI (n := i + 2) (by omega) (by omega)) d_law_law_583 ?_
        rw [nI_clamp (n := i + 2) (by omega)]
        refine lv_aload_n hx hb d_law_law_584 rfl (lv_at hl 1 rfl) ?_
        refine lv_iload_n hx hb d_law_law_585 rfl (lv_at hl 0 rfl) ?_
        refine lv_iconst (v := 3) hx hb d_law_law_586 (by decide) ?_
        refine lv_iadd hx hb d_law_law_587 ?_
        rw [show ((nI i) + 3) = (nI (i + 3)) from nI_add _ _]
        refine va_sld hx hb hX hbl hbA hw.2.2.2.1 (vp_in_nI (n := i + 3) (by omega) (by omega)) d_law_law_588 ?_
        rw [nI_clamp (n := i + 3) (by omega)]
        refine x_cl (x_runV (na := 3) (k := 75) (As := [.int (xs (i + 1)), .int (xs (i + 2)), .int (xs (i + 3))]) (rest := []) (ci := 7) ⟨hx, hb, hml, hown, ht⟩ (m_M_node (u := u569) (xs (i + 1)) (xs (i + 2)) (xs (i + 3)) (nM u569) hM.n4 hM.s11 _) w_659 w_660 w_661 w_9 w_662 (by decide +kernel) ⟨rfl, rfl, Nat.le_of_ble_eq_true rfl, Nat.le_of_ble_eq_true rfl⟩ hw (by decide) o_M rfl rfl hl.1 rfl (Nat.le_of_ble_eq_true rfl) d_law_law_589 ⟨Nat.le_refl _, Nat.le_refl _⟩) hw hA (fun v589 u589 H locs hp hw => ?_)
        have e589 : v589 = (nodM u569 (xs (i + 1)) (xs (i + 2)) (xs (i + 3)) (nM u569)).1 := congrArg Prod.fst hp
        have hu589 : u589 = (nodM u569 (xs (i + 1)) (xs (i + 2)) (xs (i + 3)) (nM u569)).2 := congrArg Prod.snd hp
        have hI9 : Jnv u589 := by rw [hu589]; exact jnv_nodM hI1 _ _ _ _
        refine lv_pop2_2 hx hb d_law_law_592 rfl ?_
        refine lv_goto (tgt := 619) hx hb d_law_law_593 (by decide) ?_
        refine lv_iinc (v := ((nI i) + 4)) (lv' := [(3, .int ((nI i) + 4)), (0, .ref b), (1, .ref (ad 0)), (2, .ref (ad 75))]) hx hb d_law_law_619 hl (k := 0) rfl rfl (by decide) rfl (fun ls hl => ?_)
        refine lv_goto (tgt := 18) hx hb d_law_law_622 (by decide) ?_
        exact ih18 (i + 4) (u589) (by omega) (hI9) (by omega) _ _ hw ls (by rw [← (show ((nI i) + 4) = (nI (i + 4)) from nI_add i 4)]; exact lv_sub hl [0, 1, 2, 3] rfl)
      by_cases s32_13 : y32 = 13
      · subst s32_13
        refine lv_tableIn (tgt := 596) hx hb d_law_law_32 (by decide) (by decide) rfl (by decide) ?_
        refine lv_aload_n hx hb d_law_law_596 rfl (lv_at hl 2 rfl) ?_
        refine lv_aload_n hx hb d_law_law_597 rfl (lv_at hl 1 rfl) ?_
        refine lv_iload_n hx hb d_law_law_598 rfl (lv_at hl 0 rfl) ?_
        refine lv_iconst (v := 1) hx hb d_law_law_599 (by decide) ?_
        refine lv_iadd hx hb d_law_law_600 ?_
        rw [show ((nI i) + 1) = (nI (i + 1)) from nI_add _ _]
        refine va_sld hx hb hX hbl hbA hw.2.2.2.1 (vp_in_nI (n := i + 1) (by omega) (by omega)) d_law_law_601 ?_
        rw [nI_clamp (n := i + 1) (by omega)]
        refine x_ci (x_runV (na := 1) (k := 0) (As := [.int (xs (i + 1))]) (rest := []) (ci := 6) ⟨hx, hb, hml, hown, ht⟩ (m_X_count (u := u) (xs (i + 1)) (nX u) hI.x.n4 hI.x.s2 _) w_446 w_447 w_448 w_1 w_449 (by decide +kernel) ⟨rfl, rfl, Nat.le_of_ble_eq_true rfl, Nat.le_of_ble_eq_true rfl⟩ hw (by decide) o_X rfl rfl hl.1 rfl (Nat.le_of_ble_eq_true rfl) d_law_law_602 ⟨Nat.le_refl _, Nat.le_refl _⟩) hw hA (fun v602 u602 H locs hp hw => ?_)
        have e602 : v602 = (cntX u (xs (i + 1)) (nX u)).1 := congrArg Prod.fst hp
        have hu602 : u602 = (cntX u (xs (i + 1)) (nX u)).2 := congrArg Prod.snd hp
        have hI1 : Jnv u602 := by rw [hu602]; exact hI.ox OX_cntX
        have hM := hI1.m
        refine lv_pop hx hb d_law_law_605 rfl ?_
        refine lv_aload_n hx hb d_law_law_606 rfl (lv_at hl 3 rfl) ?_
        refine lv_aload_n hx hb d_law_law_607 rfl (lv_at hl 1 rfl) ?_
        refine lv_iload_n hx hb d_law_law_608 rfl (lv_at hl 0 rfl) ?_
        refine lv_iconst (v := 1) hx hb d_law_law_609 (by decide) ?_
        refine lv_iadd hx hb d_law_law_610 ?_
        rw [show ((nI i) + 1) = (nI (i + 1)) from nI_add _ _]
        refine va_sld hx hb hX hbl hbA hw.2.2.2.1 (vp_in_nI (n := i + 1) (by omega) (by omega)) d_law_law_611 ?_
        rw [nI_clamp (n := i + 1) (by omega)]
        refine x_ci (x_runV (na := 1) (k := 75) (As := [.int (xs (i + 1))]) (rest := []) (ci := 7) ⟨hx, hb, hml, hown, ht⟩ (m_M_count (u := u602) (xs (i + 1)) (nM u602) hM.n4 hM.s11 _) w_664 w_665 w_666 w_9 w_667 (by decide +kernel) ⟨rfl, rfl, Nat.le_of_ble_eq_true rfl, Nat.le_of_ble_eq_true rfl⟩ hw (by decide) o_M rfl rfl hl.1 rfl (Nat.le_of_ble_eq_true rfl) d_law_law_612 ⟨Nat.le_refl _, Nat.le_refl _⟩) hw hA (fun v612 u612 H locs hp hw => ?_)
        have e612 : v612 = (cntM u602 (xs (i + 1)) (nM u602)).1 := congrArg Prod.fst hp
        have hu612 : u612 = (cntM u602 (xs (i + 1)) (nM u602)).2 := congrArg Prod.snd hp
        have hI9 : Jnv u612 := by rw [hu612]; exact jnv_cntM hI1 _ _
        refine lv_pop hx hb d_law_law_615 rfl ?_
        refine lv_goto (tgt := 619) hx hb d_law_law_616 (by decide) ?_
        refine lv_iinc (v := ((nI i) + 4)) (lv' := [(3, .int ((nI i) + 4)), (0, .ref b), (1, .ref (ad 0)), (2, .ref (ad 75))]) hx hb d_law_law_619 hl (k := 0) rfl rfl (by decide) rfl (fun ls hl => ?_)
        refine lv_goto (tgt := 18) hx hb d_law_law_622 (by decide) ?_
        exact ih18 (i + 4) (u612) (by omega) (hI9) (by omega) _ _ hw ls (by rw [← (show ((nI i) + 4) = (nI (i + 4)) from nI_add i 4)]; exact lv_sub hl [0, 1, 2, 3] rfl)
      have n32_0 := lv_neT s32_0 (a := 0) rfl
      have n32_1 := lv_neT s32_1 (a := 1) rfl
      have n32_2 := lv_neT s32_2 (a := 2) rfl
      have n32_3 := lv_neT s32_3 (a := 3) rfl
      have n32_4 := lv_neT s32_4 (a := 4) rfl
      have n32_5 := lv_neT s32_5 (a := 5) rfl
      have n32_6 := lv_neT s32_6 (a := 6) rfl
      have n32_7 := lv_neT s32_7 (a := 7) rfl
      have n32_8 := lv_neT s32_8 (a := 8) rfl
      have n32_9 := lv_neT s32_9 (a := 9) rfl
      have n32_10 := lv_neT s32_10 (a := 10) rfl
      have n32_11 := lv_neT s32_11 (a := 11) rfl
      have n32_12 := lv_neT s32_12 (a := 12) rfl
      have n32_13 := lv_neT s32_13 (a := 13) rfl
      refine lv_tableOut (tgt := 619) hx hb d_law_law_32 (by omega) (by decide) ?_
      have hI9 := hI
      refine lv_iinc (v := ((nI i) + 4)) (lv' := [(3, .int ((nI i) + 4)), (0, .ref b), (1, .ref (ad 0)), (2, .ref (ad 75))]) hx hb d_law_law_619 hl (k := 0) rfl rfl (by decide) rfl (fun ls hl => ?_)
      refine lv_goto (tgt := 18) hx hb d_law_law_622 (by decide) ?_
      exact ih18 (i + 4) (u) (by omega) (hI9) (by omega) _ _ hw ls (by rw [← (show ((nI i) + 4) = (nI (i + 4)) from nI_add i 4)]; exact lv_sub hl [0, 1, 2, 3] rfl)
