theorem lw_i4 {i L : Nat} (hi : i ≤ 4096) (hL : L ≤ 4) (h : ¬ nI L - 4 < nI i) : i + 4 ≤ L := by
  rw [Int32.lt_iff_toInt_lt, show nI L - 4 = nI L - nI 4 from rfl, pk_sub_toInt (a := L) (b := 4) (by omega) (by omega), nI_toInt (by omega)] at h
  omega
set_option maxHeartbeats 4000000 in
set_option maxRecDepth 100000 in
theorem law_loop {p : Program} {l : Launch} {e : Env} {s : State} {m : MethodId} {below : List Frame} {meth : Method} {c : Code} {D : va_G} {g : Ids} {ad : Nat → Nat} {b L : Nat} {xs : Nat → Int32} (hL : L ≤ 4) (C0 : lw_At p s m meth c b L xs) :
    ∀ (n18 i : Nat) (u : St), i ≤ L → Jnv u → (i + 4 ≤ L → u = u0) → L + 4 - i < n18 → ∀ (H : Heap) (locs : List Loc), XH D g ad (fun q : Nat => s.heap.size ≤ q) s s.heap H locs u → ∀ ls : Array Slot, lv_has ls 4 [(3, .int (nI i)), (0, .ref b), (1, .ref (ad 0)), (2, .ref (ad 75))] → W p l e room_1 s m #[Value.ref b] below meth c H locs 600000 7302250 (lw_Z below #[Value.ref b] s) (F0 m 18 ls []) := by
  obtain ⟨hx, hb, hr, hml, hown, hts, hX, hbl, hlk, hgv⟩ := C0
  have hown : s.vm.findClass "LearnedRankerLaw" = some m.cls := hown
  have ht : ∀ w ∈ lwg, w.before #[Value.ref b] s = true := fun w h => hts w (List.mem_filter.mp h).1
  have hA : ∀ q : Nat, s.heap.size ≤ q → (fun q : Nat => s.heap.size ≤ q) q := fun _ h => h
  have hbA : ¬ (fun q : Nat => s.heap.size ≤ q) b := Nat.not_le.mpr hbl
  intro n18
  induction n18 with
  | zero => intro i u h1 hI hZ hz; exact absurd hz (by omega)
  | succ n18 ih18 =>
    intro i u h1 hI hZ hnL H locs hw ls hl
    refine lv_iload_n hx hb d_law_law_18 rfl (lv_at hl 0 rfl) ?_
    refine lv_aload_n hx hb d_law_law_19 rfl (lv_at hl 1 rfl) ?_
    refine va_slen hx hb hX hbl hbA hw.2.2.2.1 d_law_law_20 ?_
    refine lv_iconst (v := 4) hx hb d_law_law_21 (by decide) ?_
    refine lv_isub hx hb d_law_law_22 ?_
    refine lv_icmp_gt (tgt := 628) hx hb d_law_law_23 (by decide) (fun c23 => ?_) (fun c23 => ?_)
    · refine lv_iconst (v := 1) hx hb d_law_law_628 (by decide) ?_
      refine va_forget (fun q hq => hw.2.2.2.1.2.2 q hq) ?_
      exact lw_ret hx hb hr hlk d_law_law_629
    · have hi4 : i + 4 ≤ L := lw_i4 (by omega) hL c23
      refine lv_aload_n hx hb d_law_law_26 rfl (lv_at hl 1 rfl) ?_
      refine lv_iload_n hx hb d_law_law_27 rfl (lv_at hl 0 rfl) ?_
      refine va_sld hx hb hX hbl hbA hw.2.2.2.1 (vp_in_nI (n := i) (by omega) (by omega)) d_law_law_28 ?_
      rw [nI_clamp (n := i) (by omega)]
      refine lv_bipush (v := 15) hx hb d_law_law_29 (by decide) ?_
      refine lv_iand hx hb d_law_law_31 ?_
      refine lv_topi (fun y32 e32 => ?_)
      by_cases s32_0 : y32 = 0
      · subst s32_0
        refine lv_tableIn (tgt := 104) hx hb d_law_law_32 (by decide) (by decide) rfl (by decide) ?_
        refine lv_aload_n hx hb d_law_law_104 rfl (lv_at hl 2 rfl) ?_
        refine lv_aload_n hx hb d_law_law_105 rfl (lv_at hl 1 rfl) ?_
        refine lv_iload_n hx hb d_law_law_106 rfl (lv_at hl 0 rfl) ?_
        refine lv_iconst (v := 1) hx hb d_law_law_107 (by decide) ?_
        refine lv_iadd hx hb d_law_law_108 ?_
        rw [show ((nI i) + 1) = (nI (i + 1)) from nI_add _ _]
        refine va_sld hx hb hX hbl hbA hw.2.2.2.1 (vp_in_nI (n := i + 1) (by omega) (by omega)) d_law_law_109 ?_
        rw [nI_clamp (n := i + 1) (by omega)]
        refine lv_aload_n hx hb d_law_law_110 rfl (lv_at hl 1 rfl) ?_
        refine lv_iload_n hx hb d_law_law_111 rfl (lv_at hl 0 rfl) ?_
        refine lv_iconst (v := 2) hx hb d_law_law_112 (by decide) ?_
        refine lv_iadd hx hb d_law_law_113 ?_
        rw [show ((nI i) + 2) = (nI (i + 2)) from nI_add _ _]
        refine va_sld hx hb hX hbl hbA hw.2.2.2.1 (vp_in_nI (n := i + 2) (by omega) (by omega)) d_law_law_114 ?_
        rw [nI_clamp (n := i + 2) (by omega)]
        refine x_ci (x_runV (na := 2) (k := 0) (As := [.int (xs (i + 1)), .int (xs (i + 2))]) (rest := []) (ci := 6) ⟨hx, hb, hml, hown, ht⟩ (m_X_document (u := u) (xs (i + 1)) (xs (i + 2)) _) w_172 w_173 w_174 w_1 w_175 (by decide +kernel) ⟨rfl, rfl, Nat.le_of_ble_eq_true rfl, Nat.le_of_ble_eq_true rfl⟩ hw (by decide) o_X rfl rfl hl.1 rfl (Nat.le_of_ble_eq_true rfl) d_law_law_115 ⟨Nat.le_refl _, Nat.le_refl _⟩) hw hA (fun v115 u115 H locs hp hw => ?_)
        have e115 : v115 = (docX u (xs (i + 1)) (xs (i + 2))).1 := congrArg Prod.fst hp
        have hu115 : u115 = (docX u (xs (i + 1)) (xs (i + 2))).2 := congrArg Prod.snd hp
        refine lv_aload_n hx hb d_law_law_118 rfl (lv_at hl 3 rfl) ?_
        refine lv_aload_n hx hb d_law_law_119 rfl (lv_at hl 1 rfl) ?_
        refine lv_iload_n hx hb d_law_law_120 rfl (lv_at hl 0 rfl) ?_
        refine lv_iconst (v := 1) hx hb d_law_law_121 (by decide) ?_
        refine lv_iadd hx hb d_law_law_122 ?_
        rw [show ((nI i) + 1) = (nI (i + 1)) from nI_add _ _]
        refine va_sld hx hb hX hbl hbA hw.2.2.2.1 (vp_in_nI (n := i + 1) (by omega) (by omega)) d_law_law_123 ?_
        rw [nI_clamp (n := i + 1) (by omega)]
        refine lv_aload_n hx hb d_law_law_124 rfl (lv_at hl 1 rfl) ?_
        refine lv_iload_n hx hb d_law_law_125 rfl (lv_at hl 0 rfl) ?_
        refine lv_iconst (v := 2) hx hb d_law_law_126 (by decide) ?_
        refine lv_iadd hx hb d_law_law_127 ?_
        rw [show ((nI i) + 2) = (nI (i + 2)) from nI_add _ _]
        refine va_sld hx hb hX hbl hbA hw.2.2.2.1 (vp_in_nI (n := i + 2) (by omega) (by omega)) d_law_law_128 ?_
        rw [nI_clamp (n := i + 2) (by omega)]
        refine x_ci (x_runV (na := 2) (k := 75) (As := [.int (xs (i + 1)), .int (xs (i + 2))]) (rest := [.int v115]) (ci := 7) ⟨hx, hb, hml, hown, ht⟩ (m_M_document (u := u115) (xs (i + 1)) (xs (i + 2)) _) w_550 w_551 w_552 w_9 w_553 (by decide +kernel) ⟨rfl, rfl, Nat.le_of_ble_eq_true rfl, Nat.le_of_ble_eq_true rfl⟩ hw (by decide) o_M rfl rfl hl.1 rfl (Nat.le_of_ble_eq_true rfl) d_law_law_129 ⟨Nat.le_refl _, Nat.le_refl _⟩) hw hA (fun v129 u129 H locs hp hw => ?_)
        have e129 : v129 = (docM u115 (xs (i + 1)) (xs (i + 2))).1 := congrArg Prod.fst hp
        have hu129 : u129 = (docM u115 (xs (i + 1)) (xs (i + 2))).2 := congrArg Prod.snd hp
        have hI9 : Jnv u129 := by rw [hu129, hu115]; exact (jnv_doc hI _ _).1
        refine lv_icmp_eq (tgt := 622) hx hb d_law_law_132 (by decide) (fun c132 => ?_) (fun c132 => absurd (show v115 = v129 by rw [e115, e129, hu115]; exact ans_document hI.1 _ _) c132)
        refine lv_iinc (v := ((nI i) + 4)) (lv' := [(3, .int ((nI i) + 4)), (0, .ref b), (1, .ref (ad 0)), (2, .ref (ad 75))]) hx hb d_law_law_622 hl (k := 0) rfl rfl (by decide) rfl (fun ls hl => ?_)
        refine lv_goto (tgt := 18) hx hb d_law_law_625 (by decide) ?_
        exact ih18 (i + 4) (u129) (by omega) (hI9) (fun z9 => absurd z9 (by omega)) (by omega) _ _ hw ls (by rw [← (show ((nI i) + 4) = (nI (i + 4)) from nI_add i 4)]; exact lv_sub hl [0, 1, 2, 3] rfl)
      by_cases s32_1 : y32 = 1
      · subst s32_1
        refine lv_tableIn (tgt := 137) hx hb d_law_law_32 (by decide) (by decide) rfl (by decide) ?_
        refine lv_aload_n hx hb d_law_law_137 rfl (lv_at hl 2 rfl) ?_
        refine lv_aload_n hx hb d_law_law_138 rfl (lv_at hl 1 rfl) ?_
        refine lv_iload_n hx hb d_law_law_139 rfl (lv_at hl 0 rfl) ?_
        refine lv_iconst (v := 1) hx hb d_law_law_140 (by decide) ?_
        refine lv_iadd hx hb d_law_law_141 ?_
        rw [show ((nI i) + 1) = (nI (i + 1)) from nI_add _ _]
        refine va_sld hx hb hX hbl hbA hw.2.2.2.1 (vp_in_nI (n := i + 1) (by omega) (by omega)) d_law_law_142 ?_
        rw [nI_clamp (n := i + 1) (by omega)]
        refine x_ci (x_runV (na := 1) (k := 0) (As := [.int (xs (i + 1))]) (rest := []) (ci := 6) ⟨hx, hb, hml, hown, ht⟩ (m_X_remove (u := u) (xs (i + 1)) _) w_184 w_185 w_186 w_1 w_187 (by decide +kernel) ⟨rfl, rfl, Nat.le_of_ble_eq_true rfl, Nat.le_of_ble_eq_true rfl⟩ hw (by decide) o_X rfl rfl hl.1 rfl (Nat.le_of_ble_eq_true rfl) d_law_law_143 ⟨Nat.le_refl _, Nat.le_refl _⟩) hw hA (fun v143 u143 H locs hp hw => ?_)
        have e143 : v143 = (remX u (xs (i + 1))).1 := congrArg Prod.fst hp
        have hu143 : u143 = (remX u (xs (i + 1))).2 := congrArg Prod.snd hp
        refine lv_aload_n hx hb d_law_law_146 rfl (lv_at hl 3 rfl) ?_
        refine lv_aload_n hx hb d_law_law_147 rfl (lv_at hl 1 rfl) ?_
        refine lv_iload_n hx hb d_law_law_148 rfl (lv_at hl 0 rfl) ?_
        refine lv_iconst (v := 1) hx hb d_law_law_149 (by decide) ?_
        refine lv_iadd hx hb d_law_law_150 ?_
        rw [show ((nI i) + 1) = (nI (i + 1)) from nI_add _ _]
        refine va_sld hx hb hX hbl hbA hw.2.2.2.1 (vp_in_nI (n := i + 1) (by omega) (by omega)) d_law_law_151 ?_
        rw [nI_clamp (n := i + 1) (by omega)]
        refine x_ci (x_runV (na := 1) (k := 75) (As := [.int (xs (i + 1))]) (rest := [.int v143]) (ci := 7) ⟨hx, hb, hml, hown, ht⟩ (m_M_remove (u := u143) (xs (i + 1)) _) w_557 w_558 w_559 w_9 w_560 (by decide +kernel) ⟨rfl, rfl, Nat.le_of_ble_eq_true rfl, Nat.le_of_ble_eq_true rfl⟩ hw (by decide) o_M rfl rfl hl.1 rfl (Nat.le_of_ble_eq_true rfl) d_law_law_152 ⟨Nat.le_refl _, Nat.le_refl _⟩) hw hA (fun v152 u152 H locs hp hw => ?_)
        have e152 : v152 = (remM u143 (xs (i + 1))).1 := congrArg Prod.fst hp
        have hu152 : u152 = (remM u143 (xs (i + 1))).2 := congrArg Prod.snd hp
        have hI9 : Jnv u152 := by rw [hu152, hu143]; exact (jnv_rem hI _).1
        refine lv_icmp_eq (tgt := 622) hx hb d_law_law_155 (by decide) (fun c155 => ?_) (fun c155 => absurd (show v143 = v152 by rw [e143, e152, hu143]; exact ans_remove hI.1 _) c155)
        refine lv_iinc (v := ((nI i) + 4)) (lv' := [(3, .int ((nI i) + 4)), (0, .ref b), (1, .ref (ad 0)), (2, .ref (ad 75))]) hx hb d_law_law_622 hl (k := 0) rfl rfl (by decide) rfl (fun ls hl => ?_)
        refine lv_goto (tgt := 18) hx hb d_law_law_625 (by decide) ?_
        exact ih18 (i + 4) (u152) (by omega) (hI9) (fun z9 => absurd z9 (by omega)) (by omega) _ _ hw ls (by rw [← (show ((nI i) + 4) = (nI (i + 4)) from nI_add i 4)]; exact lv_sub hl [0, 1, 2, 3] rfl)
      by_cases s32_2 : y32 = 2
      · subst s32_2
        refine lv_tableIn (tgt := 160) hx hb d_law_law_32 (by decide) (by decide) rfl (by decide) ?_
        refine lv_aload_n hx hb d_law_law_160 rfl (lv_at hl 2 rfl) ?_
        refine lv_aload_n hx hb d_law_law_161 rfl (lv_at hl 1 rfl) ?_
        refine lv_iload_n hx hb d_law_law_162 rfl (lv_at hl 0 rfl) ?_
        refine lv_iconst (v := 1) hx hb d_law_law_163 (by decide) ?_
        refine lv_iadd hx hb d_law_law_164 ?_
        rw [show ((nI i) + 1) = (nI (i + 1)) from nI_add _ _]
        refine va_sld hx hb hX hbl hbA hw.2.2.2.1 (vp_in_nI (n := i + 1) (by omega) (by omega)) d_law_law_165 ?_
        rw [nI_clamp (n := i + 1) (by omega)]
        refine lv_aload_n hx hb d_law_law_166 rfl (lv_at hl 1 rfl) ?_
        refine lv_iload_n hx hb d_law_law_167 rfl (lv_at hl 0 rfl) ?_
        refine lv_iconst (v := 2) hx hb d_law_law_168 (by decide) ?_
        refine lv_iadd hx hb d_law_law_169 ?_
        rw [show ((nI i) + 2) = (nI (i + 2)) from nI_add _ _]
        refine va_sld hx hb hX hbl hbA hw.2.2.2.1 (vp_in_nI (n := i + 2) (by omega) (by omega)) d_law_law_170 ?_
        rw [nI_clamp (n := i + 2) (by omega)]
        refine lv_aload_n hx hb d_law_law_171 rfl (lv_at hl 1 rfl) ?_
        refine lv_iload_n hx hb d_law_law_172 rfl (lv_at hl 0 rfl) ?_
        refine lv_iconst (v := 3) hx hb d_law_law_173 (by decide) ?_
        refine lv_iadd hx hb d_law_law_174 ?_
        rw [show ((nI i) + 3) = (nI (i + 3)) from nI_add _ _]
        refine va_sld hx hb hX hbl hbA hw.2.2.2.1 (vp_in_nI (n := i + 3) (by omega) (by omega)) d_law_law_175 ?_
        rw [nI_clamp (n := i + 3) (by omega)]
        refine x_ci (x_runV (na := 3) (k := 0) (As := [.int (xs (i + 1)), .int (xs (i + 2)), .int (xs (i + 3))]) (rest := []) (ci := 6) ⟨hx, hb, hml, hown, ht⟩ (m_X_term (u := u) (xs (i + 1)) (xs (i + 2)) (xs (i + 3)) _) w_197 w_198 w_199 w_1 w_200 (by decide +kernel) ⟨rfl, rfl, Nat.le_of_ble_eq_true rfl, Nat.le_of_ble_eq_true rfl⟩ hw (by decide) o_X rfl rfl hl.1 rfl (Nat.le_of_ble_eq_true rfl) d_law_law_176 ⟨Nat.le_refl _, Nat.le_refl _⟩) hw hA (fun v176 u176 H locs hp hw => ?_)
        have e176 : v176 = (termX u (xs (i + 1)) (xs (i + 2)) (xs (i + 3))).1 := congrArg Prod.fst hp
        have hu176 : u176 = (termX u (xs (i + 1)) (xs (i + 2)) (xs (i + 3))).2 := congrArg Prod.snd hp
        refine lv_aload_n hx hb d_law_law_179 rfl (lv_at hl 3 rfl) ?_
        refine lv_aload_n hx hb d_law_law_180 rfl (lv_at hl 1 rfl) ?_
        refine lv_iload_n hx hb d_law_law_181 rfl (lv_at hl 0 rfl) ?_
        refine lv_iconst (v := 1) hx hb d_law_law_182 (by decide) ?_
        refine lv_iadd hx hb d_law_law_183 ?_
        rw [show ((nI i) + 1) = (nI (i + 1)) from nI_add _ _]
        refine va_sld hx hb hX hbl hbA hw.2.2.2.1 (vp_in_nI (n := i + 1) (by omega) (by omega)) d_law_law_184 ?_
        rw [nI_clamp (n := i + 1) (by omega)]
        refine lv_aload_n hx hb d_law_law_185 rfl (lv_at hl 1 rfl) ?_
        refine lv_iload_n hx hb d_law_law_186 rfl (lv_at hl 0 rfl) ?_
        refine lv_iconst (v := 2) hx hb d_law_law_187 (by decide) ?_
        refine lv_iadd hx hb d_law_law_188 ?_
        rw [show ((nI i) + 2) = (nI (i + 2)) from nI_add _ _]
        refine va_sld hx hb hX hbl hbA hw.2.2.2.1 (vp_in_nI (n := i + 2) (by omega) (by omega)) d_law_law_189 ?_
        rw [nI_clamp (n := i + 2) (by omega)]
        refine lv_aload_n hx hb d_law_law_190 rfl (lv_at hl 1 rfl) ?_
        refine lv_iload_n hx hb d_law_law_191 rfl (lv_at hl 0 rfl) ?_
        refine lv_iconst (v := 3) hx hb d_law_law_192 (by decide) ?_
        refine lv_iadd hx hb d_law_law_193 ?_
        rw [show ((nI i) + 3) = (nI (i + 3)) from nI_add _ _]
        refine va_sld hx hb hX hbl hbA hw.2.2.2.1 (vp_in_nI (n := i + 3) (by omega) (by omega)) d_law_law_194 ?_
        rw [nI_clamp (n := i + 3) (by omega)]
        refine x_ci (x_runV (na := 3) (k := 75) (As := [.int (xs (i + 1)), .int (xs (i + 2)), .int (xs (i + 3))]) (rest := [.int v176]) (ci := 7) ⟨hx, hb, hml, hown, ht⟩ (m_M_term (u := u176) (xs (i + 1)) (xs (i + 2)) (xs (i + 3)) _) w_565 w_566 w_567 w_9 w_568 (by decide +kernel) ⟨rfl, rfl, Nat.le_of_ble_eq_true rfl, Nat.le_of_ble_eq_true rfl⟩ hw (by decide) o_M rfl rfl hl.1 rfl (Nat.le_of_ble_eq_true rfl) d_law_law_195 ⟨Nat.le_refl _, Nat.le_refl _⟩) hw hA (fun v195 u195 H locs hp hw => ?_)
        have e195 : v195 = (termM u176 (xs (i + 1)) (xs (i + 2)) (xs (i + 3))).1 := congrArg Prod.fst hp
        have hu195 : u195 = (termM u176 (xs (i + 1)) (xs (i + 2)) (xs (i + 3))).2 := congrArg Prod.snd hp
        have hI9 : Jnv u195 := by rw [hu195, hu176]; exact (jnv_term hI _ _ _).1
        refine lv_icmp_eq (tgt := 622) hx hb d_law_law_198 (by decide) (fun c198 => ?_) (fun c198 => absurd (show v176 = v195 by rw [e176, e195, hu176]; exact ans_term hI.1 _ _ _) c198)
        refine lv_iinc (v := ((nI i) + 4)) (lv' := [(3, .int ((nI i) + 4)), (0, .ref b), (1, .ref (ad 0)), (2, .ref (ad 75))]) hx hb d_law_law_622 hl (k := 0) rfl rfl (by decide) rfl (fun ls hl => ?_)
        refine lv_goto (tgt := 18) hx hb d_law_law_625 (by decide) ?_
        exact ih18 (i + 4) (u195) (by omega) (hI9) (fun z9 => absurd z9 (by omega)) (by omega) _ _ hw ls (by rw [← (show ((nI i) + 4) = (nI (i + 4)) from nI_add i 4)]; exact lv_sub hl [0, 1, 2, 3] rfl)
      by_cases s32_3 : y32 = 3
      · subst s32_3
        refine lv_tableIn (tgt := 203) hx hb d_law_law_32 (by decide) (by decide) rfl (by decide) ?_
        refine lv_aload_n hx hb d_law_law_203 rfl (lv_at hl 2 rfl) ?_
        refine lv_aload_n hx hb d_law_law_204 rfl (lv_at hl 1 rfl) ?_
        refine lv_iload_n hx hb d_law_law_205 rfl (lv_at hl 0 rfl) ?_
        refine lv_iconst (v := 1) hx hb d_law_law_206 (by decide) ?_
        refine lv_iadd hx hb d_law_law_207 ?_
        rw [show ((nI i) + 1) = (nI (i + 1)) from nI_add _ _]
        refine va_sld hx hb hX hbl hbA hw.2.2.2.1 (vp_in_nI (n := i + 1) (by omega) (by omega)) d_law_law_208 ?_
        rw [nI_clamp (n := i + 1) (by omega)]
        refine lv_aload_n hx hb d_law_law_209 rfl (lv_at hl 1 rfl) ?_
        refine lv_iload_n hx hb d_law_law_210 rfl (lv_at hl 0 rfl) ?_
        refine lv_iconst (v := 2) hx hb d_law_law_211 (by decide) ?_
        refine lv_iadd hx hb d_law_law_212 ?_
        rw [show ((nI i) + 2) = (nI (i + 2)) from nI_add _ _]
        refine va_sld hx hb hX hbl hbA hw.2.2.2.1 (vp_in_nI (n := i + 2) (by omega) (by omega)) d_law_law_213 ?_
        rw [nI_clamp (n := i + 2) (by omega)]
        refine x_ci (x_runV (na := 2) (k := 0) (As := [.int (xs (i + 1)), .int (xs (i + 2))]) (rest := []) (ci := 6) ⟨hx, hb, hml, hown, ht⟩ (m_X_query (u := u) (xs (i + 1)) (xs (i + 2)) _) w_205 w_206 w_207 w_1 w_208 (by decide +kernel) ⟨rfl, rfl, Nat.le_of_ble_eq_true rfl, Nat.le_of_ble_eq_true rfl⟩ hw (by decide) o_X rfl rfl hl.1 rfl (Nat.le_of_ble_eq_true rfl) d_law_law_214 ⟨Nat.le_refl _, Nat.le_refl _⟩) hw hA (fun v214 u214 H locs hp hw => ?_)
        have e214 : v214 = (qryX u (xs (i + 1)) (xs (i + 2))).1 := congrArg Prod.fst hp
        have hu214 : u214 = (qryX u (xs (i + 1)) (xs (i + 2))).2 := congrArg Prod.snd hp
        refine lv_aload_n hx hb d_law_law_217 rfl (lv_at hl 3 rfl) ?_
        refine lv_aload_n hx hb d_law_law_218 rfl (lv_at hl 1 rfl) ?_
        refine lv_iload_n hx hb d_law_law_219 rfl (lv_at hl 0 rfl) ?_
        refine lv_iconst (v := 1) hx hb d_law_law_220 (by decide) ?_
        refine lv_iadd hx hb d_law_law_221 ?_
        rw [show ((nI i) + 1) = (nI (i + 1)) from nI_add _ _]
        refine va_sld hx hb hX hbl hbA hw.2.2.2.1 (vp_in_nI (n := i + 1) (by omega) (by omega)) d_law_law_222 ?_
        rw [nI_clamp (n := i + 1) (by omega)]
        refine lv_aload_n hx hb d_law_law_223 rfl (lv_at hl 1 rfl) ?_
        refine lv_iload_n hx hb d_law_law_224 rfl (lv_at hl 0 rfl) ?_
        refine lv_iconst (v := 2) hx hb d_law_law_225 (by decide) ?_
        refine lv_iadd hx hb d_law_law_226 ?_
        rw [show ((nI i) + 2) = (nI (i + 2)) from nI_add _ _]
        refine va_sld hx hb hX hbl hbA hw.2.2.2.1 (vp_in_nI (n := i + 2) (by omega) (by omega)) d_law_law_227 ?_
        rw [nI_clamp (n := i + 2) (by omega)]
        refine x_ci (x_runV (na := 2) (k := 75) (As := [.int (xs (i + 1)), .int (xs (i + 2))]) (rest := [.int v214]) (ci := 7) ⟨hx, hb, hml, hown, ht⟩ (m_M_query (u := u214) (xs (i + 1)) (xs (i + 2)) _) w_569 w_570 w_571 w_9 w_572 (by decide +kernel) ⟨rfl, rfl, Nat.le_of_ble_eq_true rfl, Nat.le_of_ble_eq_true rfl⟩ hw (by decide) o_M rfl rfl hl.1 rfl (Nat.le_of_ble_eq_true rfl) d_law_law_228 ⟨Nat.le_refl _, Nat.le_refl _⟩) hw hA (fun v228 u228 H locs hp hw => ?_)
        have e228 : v228 = (qryM u214 (xs (i + 1)) (xs (i + 2))).1 := congrArg Prod.fst hp
        have hu228 : u228 = (qryM u214 (xs (i + 1)) (xs (i + 2))).2 := congrArg Prod.snd hp
        have hI9 : Jnv u228 := by rw [hu228, hu214]; exact (jnv_qry hI _ _).1
        refine lv_icmp_eq (tgt := 622) hx hb d_law_law_231 (by decide) (fun c231 => ?_) (fun c231 => absurd (show v214 = v228 by rw [e214, e228, hu214]; exact ans_query hI.1 _ _) c231)
        refine lv_iinc (v := ((nI i) + 4)) (lv' := [(3, .int ((nI i) + 4)), (0, .ref b), (1, .ref (ad 0)), (2, .ref (ad 75))]) hx hb d_law_law_622 hl (k := 0) rfl rfl (by decide) rfl (fun ls hl => ?_)
        refine lv_goto (tgt := 18) hx hb d_law_law_625 (by decide) ?_
        exact ih18 (i + 4) (u228) (by omega) (hI9) (fun z9 => absurd z9 (by omega)) (by omega) _ _ hw ls (by rw [← (show ((nI i) + 4) = (nI (i + 4)) from nI_add i 4)]; exact lv_sub hl [0, 1, 2, 3] rfl)
      by_cases s32_4 : y32 = 4
      · subst s32_4
        refine lv_tableIn (tgt := 236) hx hb d_law_law_32 (by decide) (by decide) rfl (by decide) ?_
        refine lv_aload_n hx hb d_law_law_236 rfl (lv_at hl 2 rfl) ?_
        refine lv_aload_n hx hb d_law_law_237 rfl (lv_at hl 1 rfl) ?_
        refine lv_iload_n hx hb d_law_law_238 rfl (lv_at hl 0 rfl) ?_
        refine lv_iconst (v := 1) hx hb d_law_law_239 (by decide) ?_
        refine lv_iadd hx hb d_law_law_240 ?_
        rw [show ((nI i) + 1) = (nI (i + 1)) from nI_add _ _]
        refine va_sld hx hb hX hbl hbA hw.2.2.2.1 (vp_in_nI (n := i + 1) (by omega) (by omega)) d_law_law_241 ?_
        rw [nI_clamp (n := i + 1) (by omega)]
        refine lv_aload_n hx hb d_law_law_242 rfl (lv_at hl 1 rfl) ?_
        refine lv_iload_n hx hb d_law_law_243 rfl (lv_at hl 0 rfl) ?_
        refine lv_iconst (v := 2) hx hb d_law_law_244 (by decide) ?_
        refine lv_iadd hx hb d_law_law_245 ?_
        rw [show ((nI i) + 2) = (nI (i + 2)) from nI_add _ _]
        refine va_sld hx hb hX hbl hbA hw.2.2.2.1 (vp_in_nI (n := i + 2) (by omega) (by omega)) d_law_law_246 ?_
        rw [nI_clamp (n := i + 2) (by omega)]
        refine lv_aload_n hx hb d_law_law_247 rfl (lv_at hl 1 rfl) ?_
        refine lv_iload_n hx hb d_law_law_248 rfl (lv_at hl 0 rfl) ?_
        refine lv_iconst (v := 3) hx hb d_law_law_249 (by decide) ?_
        refine lv_iadd hx hb d_law_law_250 ?_
        rw [show ((nI i) + 3) = (nI (i + 3)) from nI_add _ _]
        refine va_sld hx hb hX hbl hbA hw.2.2.2.1 (vp_in_nI (n := i + 3) (by omega) (by omega)) d_law_law_251 ?_
        rw [nI_clamp (n := i + 3) (by omega)]
        refine x_ci (x_runV (na := 3) (k := 0) (As := [.int (xs (i + 1)), .int (xs (i + 2)), .int (xs (i + 3))]) (rest := []) (ci := 6) ⟨hx, hb, hml, hown, ht⟩ (m_X_judge (u := u) (xs (i + 1)) (xs (i + 2)) (xs (i + 3)) _) w_212 w_213 w_214 w_1 w_215 (by decide +kernel) ⟨rfl, rfl, Nat.le_of_ble_eq_true rfl, Nat.le_of_ble_eq_true rfl⟩ hw (by decide) o_X rfl rfl hl.1 rfl (Nat.le_of_ble_eq_true rfl) d_law_law_252 ⟨Nat.le_refl _, Nat.le_refl _⟩) hw hA (fun v252 u252 H locs hp hw => ?_)
        have e252 : v252 = (judX u (xs (i + 1)) (xs (i + 2)) (xs (i + 3))).1 := congrArg Prod.fst hp
        have hu252 : u252 = (judX u (xs (i + 1)) (xs (i + 2)) (xs (i + 3))).2 := congrArg Prod.snd hp
        refine lv_aload_n hx hb d_law_law_255 rfl (lv_at hl 3 rfl) ?_
        refine lv_aload_n hx hb d_law_law_256 rfl (lv_at hl 1 rfl) ?_
        refine lv_iload_n hx hb d_law_law_257 rfl (lv_at hl 0 rfl) ?_
        refine lv_iconst (v := 1) hx hb d_law_law_258 (by decide) ?_
        refine lv_iadd hx hb d_law_law_259 ?_
        rw [show ((nI i) + 1) = (nI (i + 1)) from nI_add _ _]
        refine va_sld hx hb hX hbl hbA hw.2.2.2.1 (vp_in_nI (n := i + 1) (by omega) (by omega)) d_law_law_260 ?_
        rw [nI_clamp (n := i + 1) (by omega)]
        refine lv_aload_n hx hb d_law_law_261 rfl (lv_at hl 1 rfl) ?_
        refine lv_iload_n hx hb d_law_law_262 rfl (lv_at hl 0 rfl) ?_
        refine lv_iconst (v := 2) hx hb d_law_law_263 (by decide) ?_
        refine lv_iadd hx hb d_law_law_264 ?_
        rw [show ((nI i) + 2) = (nI (i + 2)) from nI_add _ _]
        refine va_sld hx hb hX hbl hbA hw.2.2.2.1 (vp_in_nI (n := i + 2) (by omega) (by omega)) d_law_law_265 ?_
        rw [nI_clamp (n := i + 2) (by omega)]
        refine lv_aload_n hx hb d_law_law_266 rfl (lv_at hl 1 rfl) ?_
        refine lv_iload_n hx hb d_law_law_267 rfl (lv_at hl 0 rfl) ?_
        refine lv_iconst (v := 3) hx hb d_law_law_268 (by decide) ?_
        refine lv_iadd hx hb d_law_law_269 ?_
        rw [show ((nI i) + 3) = (nI (i + 3)) from nI_add _ _]
        refine va_sld hx hb hX hbl hbA hw.2.2.2.1 (vp_in_nI (n := i + 3) (by omega) (by omega)) d_law_law_270 ?_
        rw [nI_clamp (n := i + 3) (by omega)]
        refine x_ci (x_runV (na := 3) (k := 75) (As := [.int (xs (i + 1)), .int (xs (i + 2)), .int (xs (i + 3))]) (rest := [.int v252]) (ci := 7) ⟨hx, hb, hml, hown, ht⟩ (m_M_judge (u := u252) (xs (i + 1)) (xs (i + 2)) (xs (i + 3)) _) w_573 w_574 w_575 w_9 w_576 (by decide +kernel) ⟨rfl, rfl, Nat.le_of_ble_eq_true rfl, Nat.le_of_ble_eq_true rfl⟩ hw (by decide) o_M rfl rfl hl.1 rfl (Nat.le_of_ble_eq_true rfl) d_law_law_271 ⟨Nat.le_refl _, Nat.le_refl _⟩) hw hA (fun v271 u271 H locs hp hw => ?_)
        have e271 : v271 = (judM u252 (xs (i + 1)) (xs (i + 2)) (xs (i + 3))).1 := congrArg Prod.fst hp
        have hu271 : u271 = (judM u252 (xs (i + 1)) (xs (i + 2)) (xs (i + 3))).2 := congrArg Prod.snd hp
        have hI9 : Jnv u271 := by rw [hu271, hu252]; exact (jnv_jud hI _ _ _).1
        refine lv_icmp_eq (tgt := 622) hx hb d_law_law_274 (by decide) (fun c274 => ?_) (fun c274 => absurd (show v252 = v271 by rw [e252, e271, hu252]; exact ans_judge hI.1 _ _ _) c274)
        refine lv_iinc (v := ((nI i) + 4)) (lv' := [(3, .int ((nI i) + 4)), (0, .ref b), (1, .ref (ad 0)), (2, .ref (ad 75))]) hx hb d_law_law_622 hl (k := 0) rfl rfl (by decide) rfl (fun ls hl => ?_)
        refine lv_goto (tgt := 18) hx hb d_law_law_625 (by decide) ?_
        exact ih18 (i + 4) (u271) (by omega) (hI9) (fun z9 => absurd z9 (by omega)) (by omega) _ _ hw ls (by rw [← (show ((nI i) + 4) = (nI (i + 4)) from nI_add i 4)]; exact lv_sub hl [0, 1, 2, 3] rfl)
      by_cases s32_5 : y32 = 5
      · subst s32_5
        refine lv_tableIn (tgt := 279) hx hb d_law_law_32 (by decide) (by decide) rfl (by decide) ?_
        refine lv_aload_n hx hb d_law_law_279 rfl (lv_at hl 2 rfl) ?_
        refine lv_aload_n hx hb d_law_law_280 rfl (lv_at hl 1 rfl) ?_
        refine lv_iload_n hx hb d_law_law_281 rfl (lv_at hl 0 rfl) ?_
        refine lv_iconst (v := 1) hx hb d_law_law_282 (by decide) ?_
        refine lv_iadd hx hb d_law_law_283 ?_
        rw [show ((nI i) + 1) = (nI (i + 1)) from nI_add _ _]
        refine va_sld hx hb hX hbl hbA hw.2.2.2.1 (vp_in_nI (n := i + 1) (by omega) (by omega)) d_law_law_284 ?_
        rw [nI_clamp (n := i + 1) (by omega)]
        refine x_ci (x_runV (na := 1) (k := 0) (As := [.int (xs (i + 1))]) (rest := []) (ci := 6) ⟨hx, hb, hml, hown, ht⟩ (m_X_depth (u := u) (xs (i + 1)) _) w_228 w_229 w_230 w_1 w_231 (by decide +kernel) ⟨rfl, rfl, Nat.le_of_ble_eq_true rfl, Nat.le_of_ble_eq_true rfl⟩ hw (by decide) o_X rfl rfl hl.1 rfl (Nat.le_of_ble_eq_true rfl) d_law_law_285 ⟨Nat.le_refl _, Nat.le_refl _⟩) hw hA (fun v285 u285 H locs hp hw => ?_)
        have e285 : v285 = (depX u (xs (i + 1))).1 := congrArg Prod.fst hp
        have hu285 : u285 = (depX u (xs (i + 1))).2 := congrArg Prod.snd hp
        refine lv_aload_n hx hb d_law_law_288 rfl (lv_at hl 3 rfl) ?_
        refine lv_aload_n hx hb d_law_law_289 rfl (lv_at hl 1 rfl) ?_
        refine lv_iload_n hx hb d_law_law_290 rfl (lv_at hl 0 rfl) ?_
        refine lv_iconst (v := 1) hx hb d_law_law_291 (by decide) ?_
        refine lv_iadd hx hb d_law_law_292 ?_
        rw [show ((nI i) + 1) = (nI (i + 1)) from nI_add _ _]
        refine va_sld hx hb hX hbl hbA hw.2.2.2.1 (vp_in_nI (n := i + 1) (by omega) (by omega)) d_law_law_293 ?_
        rw [nI_clamp (n := i + 1) (by omega)]
        refine x_ci (x_runV (na := 1) (k := 75) (As := [.int (xs (i + 1))]) (rest := [.int v285]) (ci := 7) ⟨hx, hb, hml, hown, ht⟩ (m_M_depth (u := u285) (xs (i + 1)) _) w_581 w_582 w_583 w_9 w_584 (by decide +kernel) ⟨rfl, rfl, Nat.le_of_ble_eq_true rfl, Nat.le_of_ble_eq_true rfl⟩ hw (by decide) o_M rfl rfl hl.1 rfl (Nat.le_of_ble_eq_true rfl) d_law_law_294 ⟨Nat.le_refl _, Nat.le_refl _⟩) hw hA (fun v294 u294 H locs hp hw => ?_)
        have e294 : v294 = (depM u285 (xs (i + 1))).1 := congrArg Prod.fst hp
        have hu294 : u294 = (depM u285 (xs (i + 1))).2 := congrArg Prod.snd hp
        have hI9 : Jnv u294 := by rw [hu294, hu285]; exact (jnv_dep hI _).1
        refine lv_icmp_eq (tgt := 622) hx hb d_law_law_297 (by decide) (fun c297 => ?_) (fun c297 => absurd (show v285 = v294 by rw [e285, e294, hu285]; exact ans_depth hI.1 _) c297)
        refine lv_iinc (v := ((nI i) + 4)) (lv' := [(3, .int ((nI i) + 4)), (0, .ref b), (1, .ref (ad 0)), (2, .ref (ad 75))]) hx hb d_law_law_622 hl (k := 0) rfl rfl (by decide) rfl (fun ls hl => ?_)
        refine lv_goto (tgt := 18) hx hb d_law_law_625 (by decide) ?_
        exact ih18 (i + 4) (u294) (by omega) (hI9) (fun z9 => absurd z9 (by omega)) (by omega) _ _ hw ls (by rw [← (show ((nI i) + 4) = (nI (i + 4)) from nI_add i 4)]; exact lv_sub hl [0, 1, 2, 3] rfl)
      by_cases s32_6 : y32 = 6
      · subst s32_6
        refine lv_tableIn (tgt := 302) hx hb d_law_law_32 (by decide) (by decide) rfl (by decide) ?_
        refine lv_aload_n hx hb d_law_law_302 rfl (lv_at hl 2 rfl) ?_
        refine lv_aload_n hx hb d_law_law_303 rfl (lv_at hl 1 rfl) ?_
        refine lv_iload_n hx hb d_law_law_304 rfl (lv_at hl 0 rfl) ?_
        refine lv_iconst (v := 1) hx hb d_law_law_305 (by decide) ?_
        refine lv_iadd hx hb d_law_law_306 ?_
        rw [show ((nI i) + 1) = (nI (i + 1)) from nI_add _ _]
        refine va_sld hx hb hX hbl hbA hw.2.2.2.1 (vp_in_nI (n := i + 1) (by omega) (by omega)) d_law_law_307 ?_
        rw [nI_clamp (n := i + 1) (by omega)]
        refine lv_aload_n hx hb d_law_law_308 rfl (lv_at hl 1 rfl) ?_
        refine lv_iload_n hx hb d_law_law_309 rfl (lv_at hl 0 rfl) ?_
        refine lv_iconst (v := 2) hx hb d_law_law_310 (by decide) ?_
        refine lv_iadd hx hb d_law_law_311 ?_
        rw [show ((nI i) + 2) = (nI (i + 2)) from nI_add _ _]
        refine va_sld hx hb hX hbl hbA hw.2.2.2.1 (vp_in_nI (n := i + 2) (by omega) (by omega)) d_law_law_312 ?_
        rw [nI_clamp (n := i + 2) (by omega)]
        refine lv_aload_n hx hb d_law_law_313 rfl (lv_at hl 1 rfl) ?_
        refine lv_iload_n hx hb d_law_law_314 rfl (lv_at hl 0 rfl) ?_
        refine lv_iconst (v := 3) hx hb d_law_law_315 (by decide) ?_
        refine lv_iadd hx hb d_law_law_316 ?_
        rw [show ((nI i) + 3) = (nI (i + 3)) from nI_add _ _]
        refine va_sld hx hb hX hbl hbA hw.2.2.2.1 (vp_in_nI (n := i + 3) (by omega) (by omega)) d_law_law_317 ?_
        rw [nI_clamp (n := i + 3) (by omega)]
        refine x_ci (x_runV (na := 3) (k := 0) (As := [.int (xs (i + 1)), .int (xs (i + 2)), .int (xs (i + 3))]) (rest := []) (ci := 6) ⟨hx, hb, hml, hown, ht⟩ (m_X_train (u := u) (xs (i + 1)) (xs (i + 2)) (xs (i + 3)) hI.x.nn _) w_232 w_233 w_234 w_1 w_235 (by decide +kernel) ⟨rfl, rfl, Nat.le_of_ble_eq_true rfl, Nat.le_of_ble_eq_true rfl⟩ hw (by decide) o_X rfl rfl hl.1 rfl (Nat.le_of_ble_eq_true rfl) d_law_law_318 ⟨Nat.le_refl _, Nat.le_refl _⟩) hw hA (fun v318 u318 H locs hp hw => ?_)
        have e318 : v318 = (trainX u (xs (i + 1)) (xs (i + 2)) (xs (i + 3))).1 := congrArg Prod.fst hp
        have hu318 : u318 = (trainX u (xs (i + 1)) (xs (i + 2)) (xs (i + 3))).2 := congrArg Prod.snd hp
        have hM : IM u318 := by rw [hu318]; exact hI.m.keep (trainX_ok hI.1 _ _ _).1
        refine lv_aload_n hx hb d_law_law_321 rfl (lv_at hl 3 rfl) ?_
        refine lv_aload_n hx hb d_law_law_322 rfl (lv_at hl 1 rfl) ?_
        refine lv_iload_n hx hb d_law_law_323 rfl (lv_at hl 0 rfl) ?_
        refine lv_iconst (v := 1) hx hb d_law_law_324 (by decide) ?_
        refine lv_iadd hx hb d_law_law_325 ?_
        rw [show ((nI i) + 1) = (nI (i + 1)) from nI_add _ _]
        refine va_sld hx hb hX hbl hbA hw.2.2.2.1 (vp_in_nI (n := i + 1) (by omega) (by omega)) d_law_law_326 ?_
        rw [nI_clamp (n := i + 1) (by omega)]
        refine lv_aload_n hx hb d_law_law_327 rfl (lv_at hl 1 rfl) ?_
        refine lv_iload_n hx hb d_law_law_328 rfl (lv_at hl 0 rfl) ?_
        refine lv_iconst (v := 2) hx hb d_law_law_329 (by decide) ?_
        refine lv_iadd hx hb d_law_law_330 ?_
        rw [show ((nI i) + 2) = (nI (i + 2)) from nI_add _ _]
        refine va_sld hx hb hX hbl hbA hw.2.2.2.1 (vp_in_nI (n := i + 2) (by omega) (by omega)) d_law_law_331 ?_
        rw [nI_clamp (n := i + 2) (by omega)]
        refine lv_aload_n hx hb d_law_law_332 rfl (lv_at hl 1 rfl) ?_
        refine lv_iload_n hx hb d_law_law_333 rfl (lv_at hl 0 rfl) ?_
        refine lv_iconst (v := 3) hx hb d_law_law_334 (by decide) ?_
        refine lv_iadd hx hb d_law_law_335 ?_
        rw [show ((nI i) + 3) = (nI (i + 3)) from nI_add _ _]
        refine va_sld hx hb hX hbl hbA hw.2.2.2.1 (vp_in_nI (n := i + 3) (by omega) (by omega)) d_law_law_336 ?_
        rw [nI_clamp (n := i + 3) (by omega)]
        refine x_ci (x_runV (na := 3) (k := 75) (As := [.int (xs (i + 1)), .int (xs (i + 2)), .int (xs (i + 3))]) (rest := [.int v318]) (ci := 7) ⟨hx, hb, hml, hown, ht⟩ (m_M_train (u := u318) (xs (i + 1)) (xs (i + 2)) (xs (i + 3)) hM.lv _) w_585 w_586 w_587 w_9 w_588 (by decide +kernel) ⟨rfl, rfl, Nat.le_of_ble_eq_true rfl, Nat.le_of_ble_eq_true rfl⟩ hw (by decide) o_M rfl rfl hl.1 rfl (Nat.le_of_ble_eq_true rfl) d_law_law_337 ⟨Nat.le_refl _, Nat.le_refl _⟩) hw hA (fun v337 u337 H locs hp hw => ?_)
        have e337 : v337 = (trainM u318 (xs (i + 1)) (xs (i + 2)) (xs (i + 3))).1 := congrArg Prod.fst hp
        have hu337 : u337 = (trainM u318 (xs (i + 1)) (xs (i + 2)) (xs (i + 3))).2 := congrArg Prod.snd hp
        have hI9 : Jnv u337 := by rw [hu337, hu318]; exact jnv_train hI _ _ _
        refine lv_icmp_eq (tgt := 622) hx hb d_law_law_340 (by decide) (fun c340 => ?_) (fun c340 => absurd (show v318 = v337 by rw [e318, e337, hu318]; exact ans_train hI _ _ _) c340)
        refine lv_iinc (v := ((nI i) + 4)) (lv' := [(3, .int ((nI i) + 4)), (0, .ref b), (1, .ref (ad 0)), (2, .ref (ad 75))]) hx hb d_law_law_622 hl (k := 0) rfl rfl (by decide) rfl (fun ls hl => ?_)
        refine lv_goto (tgt := 18) hx hb d_law_law_625 (by decide) ?_
        exact ih18 (i + 4) (u337) (by omega) (hI9) (fun z9 => absurd z9 (by omega)) (by omega) _ _ hw ls (by rw [← (show ((nI i) + 4) = (nI (i + 4)) from nI_add i 4)]; exact lv_sub hl [0, 1, 2, 3] rfl)
      by_cases s32_7 : y32 = 7
      · subst s32_7
        refine lv_tableIn (tgt := 345) hx hb d_law_law_32 (by decide) (by decide) rfl (by decide) ?_
        refine lv_aload_n hx hb d_law_law_345 rfl (lv_at hl 2 rfl) ?_
        refine lv_aload_n hx hb d_law_law_346 rfl (lv_at hl 1 rfl) ?_
        refine lv_iload_n hx hb d_law_law_347 rfl (lv_at hl 0 rfl) ?_
        refine lv_iconst (v := 1) hx hb d_law_law_348 (by decide) ?_
        refine lv_iadd hx hb d_law_law_349 ?_
        rw [show ((nI i) + 1) = (nI (i + 1)) from nI_add _ _]
        refine va_sld hx hb hX hbl hbA hw.2.2.2.1 (vp_in_nI (n := i + 1) (by omega) (by omega)) d_law_law_350 ?_
        rw [nI_clamp (n := i + 1) (by omega)]
        refine lv_aload_n hx hb d_law_law_351 rfl (lv_at hl 1 rfl) ?_
        refine lv_iload_n hx hb d_law_law_352 rfl (lv_at hl 0 rfl) ?_
        refine lv_iconst (v := 2) hx hb d_law_law_353 (by decide) ?_
        refine lv_iadd hx hb d_law_law_354 ?_
        rw [show ((nI i) + 2) = (nI (i + 2)) from nI_add _ _]
        refine va_sld hx hb hX hbl hbA hw.2.2.2.1 (vp_in_nI (n := i + 2) (by omega) (by omega)) d_law_law_355 ?_
        rw [nI_clamp (n := i + 2) (by omega)]
        refine lv_aload_n hx hb d_law_law_356 rfl (lv_at hl 1 rfl) ?_
        refine lv_iload_n hx hb d_law_law_357 rfl (lv_at hl 0 rfl) ?_
        refine lv_iconst (v := 3) hx hb d_law_law_358 (by decide) ?_
        refine lv_iadd hx hb d_law_law_359 ?_
        rw [show ((nI i) + 3) = (nI (i + 3)) from nI_add _ _]
        refine va_sld hx hb hX hbl hbA hw.2.2.2.1 (vp_in_nI (n := i + 3) (by omega) (by omega)) d_law_law_360 ?_
        rw [nI_clamp (n := i + 3) (by omega)]
        refine x_ci (x_runV (na := 3) (k := 0) (As := [.int (xs (i + 1)), .int (xs (i + 2)), .int (xs (i + 3))]) (rest := []) (ci := 6) ⟨hx, hb, hml, hown, ht⟩ (m_X_feature (u := u) (xs (i + 1)) (xs (i + 2)) (xs (i + 3)) hI.x.nn _) w_352 w_353 w_354 w_1 w_355 (by decide +kernel) ⟨rfl, rfl, Nat.le_of_ble_eq_true rfl, Nat.le_of_ble_eq_true rfl⟩ hw (by decide) o_X rfl rfl hl.1 rfl (Nat.le_of_ble_eq_true rfl) d_law_law_361 ⟨Nat.le_refl _, Nat.le_refl _⟩) hw hA (fun v361 u361 H locs hp hw => ?_)
        have e361 : v361 = (featX u (xs (i + 1)) (xs (i + 2)) (xs (i + 3))).1 := congrArg Prod.fst hp
        have hu361 : u361 = (featX u (xs (i + 1)) (xs (i + 2)) (xs (i + 3))).2 := congrArg Prod.snd hp
        have hI1 : Jnv u361 := by rw [hu361]; exact hI.ox OX_featX
        have hM := hI1.m
        refine lv_aload_n hx hb d_law_law_364 rfl (lv_at hl 3 rfl) ?_
        refine lv_aload_n hx hb d_law_law_365 rfl (lv_at hl 1 rfl) ?_
        refine lv_iload_n hx hb d_law_law_366 rfl (lv_at hl 0 rfl) ?_
        refine lv_iconst (v := 1) hx hb d_law_law_367 (by decide) ?_
        refine lv_iadd hx hb d_law_law_368 ?_
        rw [show ((nI i) + 1) = (nI (i + 1)) from nI_add _ _]
        refine va_sld hx hb hX hbl hbA hw.2.2.2.1 (vp_in_nI (n := i + 1) (by omega) (by omega)) d_law_law_369 ?_
        rw [nI_clamp (n := i + 1) (by omega)]
        refine lv_aload_n hx hb d_law_law_370 rfl (lv_at hl 1 rfl) ?_
        refine lv_iload_n hx hb d_law_law_371 rfl (lv_at hl 0 rfl) ?_
        refine lv_iconst (v := 2) hx hb d_law_law_372 (by decide) ?_
        refine lv_iadd hx hb d_law_law_373 ?_
        rw [show ((nI i) + 2) = (nI (i + 2)) from nI_add _ _]
        refine va_sld hx hb hX hbl hbA hw.2.2.2.1 (vp_in_nI (n := i + 2) (by omega) (by omega)) d_law_law_374 ?_
        rw [nI_clamp (n := i + 2) (by omega)]
        refine lv_aload_n hx hb d_law_law_375 rfl (lv_at hl 1 rfl) ?_
        refine lv_iload_n hx hb d_law_law_376 rfl (lv_at hl 0 rfl) ?_
        refine lv_iconst (v := 3) hx hb d_law_law_377 (by decide) ?_
        refine lv_iadd hx hb d_law_law_378 ?_
        rw [show ((nI i) + 3) = (nI (i + 3)) from nI_add _ _]
        refine va_sld hx hb hX hbl hbA hw.2.2.2.1 (vp_in_nI (n := i + 3) (by omega) (by omega)) d_law_law_379 ?_
        rw [nI_clamp (n := i + 3) (by omega)]
        refine x_ci (x_runV (na := 3) (k := 75) (As := [.int (xs (i + 1)), .int (xs (i + 2)), .int (xs (i + 3))]) (rest := [.int v361]) (ci := 7) ⟨hx, hb, hml, hown, ht⟩ (m_M_feature (u := u361) (xs (i + 1)) (xs (i + 2)) (xs (i + 3)) _) w_621 w_622 w_623 w_9 w_624 (by decide +kernel) ⟨rfl, rfl, Nat.le_of_ble_eq_true rfl, Nat.le_of_ble_eq_true rfl⟩ hw (by decide) o_M rfl rfl hl.1 rfl (Nat.le_of_ble_eq_true rfl) d_law_law_380 ⟨Nat.le_refl _, Nat.le_refl _⟩) hw hA (fun v380 u380 H locs hp hw => ?_)
        have e380 : v380 = (featM u361 (xs (i + 1)) (xs (i + 2)) (xs (i + 3))).1 := congrArg Prod.fst hp
        have hu380 : u380 = (featM u361 (xs (i + 1)) (xs (i + 2)) (xs (i + 3))).2 := congrArg Prod.snd hp
        have hI9 : Jnv u380 := by rw [hu380]; exact jnv_featM hI1 _ _ _
        refine lv_icmp_eq (tgt := 622) hx hb d_law_law_383 (by decide) (fun c383 => ?_) (fun c383 => absurd (show v361 = v380 by rw [e361, e380, hu361]; exact ans_feature hI.1 _ _ _) c383)
        refine lv_iinc (v := ((nI i) + 4)) (lv' := [(3, .int ((nI i) + 4)), (0, .ref b), (1, .ref (ad 0)), (2, .ref (ad 75))]) hx hb d_law_law_622 hl (k := 0) rfl rfl (by decide) rfl (fun ls hl => ?_)
        refine lv_goto (tgt := 18) hx hb d_law_law_625 (by decide) ?_
        exact ih18 (i + 4) (u380) (by omega) (hI9) (fun z9 => absurd z9 (by omega)) (by omega) _ _ hw ls (by rw [← (show ((nI i) + 4) = (nI (i + 4)) from nI_add i 4)]; exact lv_sub hl [0, 1, 2, 3] rfl)
      by_cases s32_8 : y32 = 8
      · subst s32_8
        refine lv_tableIn (tgt := 388) hx hb d_law_law_32 (by decide) (by decide) rfl (by decide) ?_
        refine lv_aload_n hx hb d_law_law_388 rfl (lv_at hl 2 rfl) ?_
        refine lv_aload_n hx hb d_law_law_389 rfl (lv_at hl 1 rfl) ?_
        refine lv_iload_n hx hb d_law_law_390 rfl (lv_at hl 0 rfl) ?_
        refine lv_iconst (v := 1) hx hb d_law_law_391 (by decide) ?_
        refine lv_iadd hx hb d_law_law_392 ?_
        rw [show ((nI i) + 1) = (nI (i + 1)) from nI_add _ _]
        refine va_sld hx hb hX hbl hbA hw.2.2.2.1 (vp_in_nI (n := i + 1) (by omega) (by omega)) d_law_law_393 ?_
        rw [nI_clamp (n := i + 1) (by omega)]
        refine lv_aload_n hx hb d_law_law_394 rfl (lv_at hl 1 rfl) ?_
        refine lv_iload_n hx hb d_law_law_395 rfl (lv_at hl 0 rfl) ?_
        refine lv_iconst (v := 2) hx hb d_law_law_396 (by decide) ?_
        refine lv_iadd hx hb d_law_law_397 ?_
        rw [show ((nI i) + 2) = (nI (i + 2)) from nI_add _ _]
        refine va_sld hx hb hX hbl hbA hw.2.2.2.1 (vp_in_nI (n := i + 2) (by omega) (by omega)) d_law_law_398 ?_
        rw [nI_clamp (n := i + 2) (by omega)]
        refine lv_aload_n hx hb d_law_law_399 rfl (lv_at hl 1 rfl) ?_
        refine lv_iload_n hx hb d_law_law_400 rfl (lv_at hl 0 rfl) ?_
        refine lv_iconst (v := 3) hx hb d_law_law_401 (by decide) ?_
        refine lv_iadd hx hb d_law_law_402 ?_
        rw [show ((nI i) + 3) = (nI (i + 3)) from nI_add _ _]
        refine va_sld hx hb hX hbl hbA hw.2.2.2.1 (vp_in_nI (n := i + 3) (by omega) (by omega)) d_law_law_403 ?_
        rw [nI_clamp (n := i + 3) (by omega)]
        refine lv_if_eq (tgt := 411) hx hb d_law_law_404 (by decide) (fun c404 => ?_) (fun c404 => ?_)
        · refine lv_iconst (v := 0) hx hb d_law_law_411 (by decide) ?_
          refine x_ci (x_runV (na := 3) (k := 0) (As := [.int (xs (i + 1)), .int (xs (i + 2)), .int 0]) (rest := []) (ci := 6) ⟨hx, hb, hml, hown, ht⟩ (m_X_ranked (u := u) (xs (i + 1)) (xs (i + 2)) 0 (nX u) hI.x.nn hI.x.n4 hI.x.s2 hI.x.tT hI.x.d0 _) w_356 w_357 w_358 w_1 w_359 (by decide +kernel) ⟨rfl, rfl, Nat.le_of_ble_eq_true rfl, Nat.le_of_ble_eq_true rfl⟩ hw (by decide) o_X rfl rfl hl.1 rfl (Nat.le_of_ble_eq_true rfl) d_law_law_412 ⟨Nat.le_refl _, Nat.le_refl _⟩) hw hA (fun v412 u412 H locs hp hw => ?_)
          have e412 : v412 = (rnkX u (xs (i + 1)) (xs (i + 2)) 0 (nX u)).1 := congrArg Prod.fst hp
          have hu412 : u412 = (rnkX u (xs (i + 1)) (xs (i + 2)) 0 (nX u)).2 := congrArg Prod.snd hp
          have hI1 : Jnv u412 := by rw [hu412]; exact hI.ox (OX_rnkX hI.x.d0)
          have hM := hI1.m
          refine lv_aload_n hx hb d_law_law_415 rfl (lv_at hl 3 rfl) ?_
          refine lv_aload_n hx hb d_law_law_416 rfl (lv_at hl 1 rfl) ?_
          refine lv_iload_n hx hb d_law_law_417 rfl (lv_at hl 0 rfl) ?_
          refine lv_iconst (v := 1) hx hb d_law_law_418 (by decide) ?_
          refine lv_iadd hx hb d_law_law_419 ?_
          rw [show ((nI i) + 1) = (nI (i + 1)) from nI_add _ _]
          refine va_sld hx hb hX hbl hbA hw.2.2.2.1 (vp_in_nI (n := i + 1) (by omega) (by omega)) d_law_law_420 ?_
          rw [nI_clamp (n := i + 1) (by omega)]
          refine lv_aload_n hx hb d_law_law_421 rfl (lv_at hl 1 rfl) ?_
          refine lv_iload_n hx hb d_law_law_422 rfl (lv_at hl 0 rfl) ?_
          refine lv_iconst (v := 2) hx hb d_law_law_423 (by decide) ?_
          refine lv_iadd hx hb d_law_law_424 ?_
          rw [show ((nI i) + 2) = (nI (i + 2)) from nI_add _ _]
          refine va_sld hx hb hX hbl hbA hw.2.2.2.1 (vp_in_nI (n := i + 2) (by omega) (by omega)) d_law_law_425 ?_
          rw [nI_clamp (n := i + 2) (by omega)]
          refine lv_aload_n hx hb d_law_law_426 rfl (lv_at hl 1 rfl) ?_
          refine lv_iload_n hx hb d_law_law_427 rfl (lv_at hl 0 rfl) ?_
          refine lv_iconst (v := 3) hx hb d_law_law_428 (by decide) ?_
          refine lv_iadd hx hb d_law_law_429 ?_
          rw [show ((nI i) + 3) = (nI (i + 3)) from nI_add _ _]
          refine va_sld hx hb hX hbl hbA hw.2.2.2.1 (vp_in_nI (n := i + 3) (by omega) (by omega)) d_law_law_430 ?_
          rw [nI_clamp (n := i + 3) (by omega)]
          refine lv_if_eq (tgt := 438) hx hb d_law_law_431 (by decide) (fun c431 => ?_) (fun c431 => absurd c404 c431)
          refine lv_iconst (v := 0) hx hb d_law_law_438 (by decide) ?_
          refine x_ci (x_runV (na := 3) (k := 75) (As := [.int (xs (i + 1)), .int (xs (i + 2)), .int 0]) (rest := [.int v412]) (ci := 7) ⟨hx, hb, hml, hown, ht⟩ (m_M_ranked (u := u412) (xs (i + 1)) (xs (i + 2)) 0 (aM u412) (nM u412) hM.a16 hM.s10 hM.c88 hM.n4 hM.s11 hM.k3 _) w_625 w_626 w_627 w_9 w_628 (by decide +kernel) ⟨rfl, rfl, Nat.le_of_ble_eq_true rfl, Nat.le_of_ble_eq_true rfl⟩ hw (by decide) o_M rfl rfl hl.1 rfl (Nat.le_of_ble_eq_true rfl) d_law_law_439 ⟨Nat.le_refl _, Nat.le_refl _⟩) hw hA (fun v439 u439 H locs hp hw => ?_)
          have e439 : v439 = (rnkM u412 (xs (i + 1)) (xs (i + 2)) 0 (aM u412) (nM u412)).1 := congrArg Prod.fst hp
          have hu439 : u439 = (rnkM u412 (xs (i + 1)) (xs (i + 2)) 0 (aM u412) (nM u412)).2 := congrArg Prod.snd hp
          have hI9 : Jnv u439 := by rw [hu439]; exact jnv_rnkM hI1 _ _ _ _
          refine lv_icmp_eq (tgt := 622) hx hb d_law_law_442 (by decide) (fun c442 => ?_) (fun c442 => absurd (show v412 = v439 by rw [e412, e439, hu412]; exact ans_ranked hI _ _ _) c442)
          refine lv_iinc (v := ((nI i) + 4)) (lv' := [(3, .int ((nI i) + 4)), (0, .ref b), (1, .ref (ad 0)), (2, .ref (ad 75))]) hx hb d_law_law_622 hl (k := 0) rfl rfl (by decide) rfl (fun ls hl => ?_)
          refine lv_goto (tgt := 18) hx hb d_law_law_625 (by decide) ?_
          exact ih18 (i + 4) (u439) (by omega) (hI9) (fun z9 => absurd z9 (by omega)) (by omega) _ _ hw ls (by rw [← (show ((nI i) + 4) = (nI (i + 4)) from nI_add i 4)]; exact lv_sub hl [0, 1, 2, 3] rfl)
        · refine lv_iconst (v := 1) hx hb d_law_law_407 (by decide) ?_
          refine lv_goto (tgt := 412) hx hb d_law_law_408 (by decide) ?_
          refine x_ci (x_runV (na := 3) (k := 0) (As := [.int (xs (i + 1)), .int (xs (i + 2)), .int 1]) (rest := []) (ci := 6) ⟨hx, hb, hml, hown, ht⟩ (m_X_ranked (u := u) (xs (i + 1)) (xs (i + 2)) 1 (nX u) hI.x.nn hI.x.n4 hI.x.s2 hI.x.tT hI.x.d0 _) w_356 w_357 w_358 w_1 w_359 (by decide +kernel) ⟨rfl, rfl, Nat.le_of_ble_eq_true rfl, Nat.le_of_ble_eq_true rfl⟩ hw (by decide) o_X rfl rfl hl.1 rfl (Nat.le_of_ble_eq_true rfl) d_law_law_412 ⟨Nat.le_refl _, Nat.le_refl _⟩) hw hA (fun v412 u412 H locs hp hw => ?_)
          have e412 : v412 = (rnkX u (xs (i + 1)) (xs (i + 2)) 1 (nX u)).1 := congrArg Prod.fst hp
          have hu412 : u412 = (rnkX u (xs (i + 1)) (xs (i + 2)) 1 (nX u)).2 := congrArg Prod.snd hp
          have hI1 : Jnv u412 := by rw [hu412]; exact hI.ox (OX_rnkX hI.x.d0)
          have hM := hI1.m
          refine lv_aload_n hx hb d_law_law_415 rfl (lv_at hl 3 rfl) ?_
          refine lv_aload_n hx hb d_law_law_416 rfl (lv_at hl 1 rfl) ?_
          refine lv_iload_n hx hb d_law_law_417 rfl (lv_at hl 0 rfl) ?_
          refine lv_iconst (v := 1) hx hb d_law_law_418 (by decide) ?_
          refine lv_iadd hx hb d_law_law_419 ?_
          rw [show ((nI i) + 1) = (nI (i + 1)) from nI_add _ _]
          refine va_sld hx hb hX hbl hbA hw.2.2.2.1 (vp_in_nI (n := i + 1) (by omega) (by omega)) d_law_law_420 ?_
          rw [nI_clamp (n := i + 1) (by omega)]
          refine lv_aload_n hx hb d_law_law_421 rfl (lv_at hl 1 rfl) ?_
          refine lv_iload_n hx hb d_law_law_422 rfl (lv_at hl 0 rfl) ?_
          refine lv_iconst (v := 2) hx hb d_law_law_423 (by decide) ?_
          refine lv_iadd hx hb d_law_law_424 ?_
          rw [show ((nI i) + 2) = (nI (i + 2)) from nI_add _ _]
          refine va_sld hx hb hX hbl hbA hw.2.2.2.1 (vp_in_nI (n := i + 2) (by omega) (by omega)) d_law_law_425 ?_
          rw [nI_clamp (n := i + 2) (by omega)]
          refine lv_aload_n hx hb d_law_law_426 rfl (lv_at hl 1 rfl) ?_
          refine lv_iload_n hx hb d_law_law_427 rfl (lv_at hl 0 rfl) ?_
          refine lv_iconst (v := 3) hx hb d_law_law_428 (by decide) ?_
          refine lv_iadd hx hb d_law_law_429 ?_
          rw [show ((nI i) + 3) = (nI (i + 3)) from nI_add _ _]
          refine va_sld hx hb hX hbl hbA hw.2.2.2.1 (vp_in_nI (n := i + 3) (by omega) (by omega)) d_law_law_430 ?_
          rw [nI_clamp (n := i + 3) (by omega)]
          refine lv_if_eq (tgt := 438) hx hb d_law_law_431 (by decide) (fun c431 => absurd c431 c404) (fun c431 => ?_)
          refine lv_iconst (v := 1) hx hb d_law_law_434 (by decide) ?_
          refine lv_goto (tgt := 439) hx hb d_law_law_435 (by decide) ?_
          refine x_ci (x_runV (na := 3) (k := 75) (As := [.int (xs (i + 1)), .int (xs (i + 2)), .int 1]) (rest := [.int v412]) (ci := 7) ⟨hx, hb, hml, hown, ht⟩ (m_M_ranked (u := u412) (xs (i + 1)) (xs (i + 2)) 1 (aM u412) (nM u412) hM.a16 hM.s10 hM.c88 hM.n4 hM.s11 hM.k3 _) w_625 w_626 w_627 w_9 w_628 (by decide +kernel) ⟨rfl, rfl, Nat.le_of_ble_eq_true rfl, Nat.le_of_ble_eq_true rfl⟩ hw (by decide) o_M rfl rfl hl.1 rfl (Nat.le_of_ble_eq_true rfl) d_law_law_439 ⟨Nat.le_refl _, Nat.le_refl _⟩) hw hA (fun v439 u439 H locs hp hw => ?_)
          have e439 : v439 = (rnkM u412 (xs (i + 1)) (xs (i + 2)) 1 (aM u412) (nM u412)).1 := congrArg Prod.fst hp
          have hu439 : u439 = (rnkM u412 (xs (i + 1)) (xs (i + 2)) 1 (aM u412) (nM u412)).2 := congrArg Prod.snd hp
          have hI9 : Jnv u439 := by rw [hu439]; exact jnv_rnkM hI1 _ _ _ _
          refine lv_icmp_eq (tgt := 622) hx hb d_law_law_442 (by decide) (fun c442 => ?_) (fun c442 => absurd (show v412 = v439 by rw [e412, e439, hu412]; exact ans_ranked hI _ _ _) c442)
          refine lv_iinc (v := ((nI i) + 4)) (lv' := [(3, .int ((nI i) + 4)), (0, .ref b), (1, .ref (ad 0)), (2, .ref (ad 75))]) hx hb d_law_law_622 hl (k := 0) rfl rfl (by decide) rfl (fun ls hl => ?_)
          refine lv_goto (tgt := 18) hx hb d_law_law_625 (by decide) ?_
          exact ih18 (i + 4) (u439) (by omega) (hI9) (fun z9 => absurd z9 (by omega)) (by omega) _ _ hw ls (by rw [← (show ((nI i) + 4) = (nI (i + 4)) from nI_add i 4)]; exact lv_sub hl [0, 1, 2, 3] rfl)
      by_cases s32_9 : y32 = 9
      · subst s32_9
        refine lv_tableIn (tgt := 447) hx hb d_law_law_32 (by decide) (by decide) rfl (by decide) ?_
        refine lv_aload_n hx hb d_law_law_447 rfl (lv_at hl 2 rfl) ?_
        refine lv_aload_n hx hb d_law_law_448 rfl (lv_at hl 1 rfl) ?_
        refine lv_iload_n hx hb d_law_law_449 rfl (lv_at hl 0 rfl) ?_
        refine lv_iconst (v := 1) hx hb d_law_law_450 (by decide) ?_
        refine lv_iadd hx hb d_law_law_451 ?_
        rw [show ((nI i) + 1) = (nI (i + 1)) from nI_add _ _]
        refine va_sld hx hb hX hbl hbA hw.2.2.2.1 (vp_in_nI (n := i + 1) (by omega) (by omega)) d_law_law_452 ?_
        rw [nI_clamp (n := i + 1) (by omega)]
        refine lv_aload_n hx hb d_law_law_453 rfl (lv_at hl 1 rfl) ?_
        refine lv_iload_n hx hb d_law_law_454 rfl (lv_at hl 0 rfl) ?_
        refine lv_iconst (v := 2) hx hb d_law_law_455 (by decide) ?_
        refine lv_iadd hx hb d_law_law_456 ?_
        rw [show ((nI i) + 2) = (nI (i + 2)) from nI_add _ _]
        refine va_sld hx hb hX hbl hbA hw.2.2.2.1 (vp_in_nI (n := i + 2) (by omega) (by omega)) d_law_law_457 ?_
        rw [nI_clamp (n := i + 2) (by omega)]
        refine x_cl (x_runV (na := 2) (k := 0) (As := [.int (xs (i + 1)), .int (xs (i + 2))]) (rest := []) (ci := 6) ⟨hx, hb, hml, hown, ht⟩ (m_X_score (u := u) (xs (i + 1)) (xs (i + 2)) (nX u) hI.x.nn hI.x.n4 hI.x.s2 hI.x.tT _) w_398 w_399 w_400 w_1 w_401 (by decide +kernel) ⟨rfl, rfl, Nat.le_of_ble_eq_true rfl, Nat.le_of_ble_eq_true rfl⟩ hw (by decide) o_X rfl rfl hl.1 rfl (Nat.le_of_ble_eq_true rfl) d_law_law_458 ⟨Nat.le_refl _, Nat.le_refl _⟩) hw hA (fun v458 u458 H locs hp hw => ?_)
        have e458 : v458 = (scoX u (xs (i + 1)) (xs (i + 2)) (nX u)).1 := congrArg Prod.fst hp
        have hu458 : u458 = (scoX u (xs (i + 1)) (xs (i + 2)) (nX u)).2 := congrArg Prod.snd hp
        have hI1 : Jnv u458 := by rw [hu458]; exact hI.ox OX_scoX
        have hM := hI1.m
        refine lv_aload_n hx hb d_law_law_461 rfl (lv_at hl 3 rfl) ?_
        refine lv_aload_n hx hb d_law_law_462 rfl (lv_at hl 1 rfl) ?_
        refine lv_iload_n hx hb d_law_law_463 rfl (lv_at hl 0 rfl) ?_
        refine lv_iconst (v := 1) hx hb d_law_law_464 (by decide) ?_
        refine lv_iadd hx hb d_law_law_465 ?_
        rw [show ((nI i) + 1) = (nI (i + 1)) from nI_add _ _]
        refine va_sld hx hb hX hbl hbA hw.2.2.2.1 (vp_in_nI (n := i + 1) (by omega) (by omega)) d_law_law_466 ?_
        rw [nI_clamp (n := i + 1) (by omega)]
        refine lv_aload_n hx hb d_law_law_467 rfl (lv_at hl 1 rfl) ?_
        refine lv_iload_n hx hb d_law_law_468 rfl (lv_at hl 0 rfl) ?_
        refine lv_iconst (v := 2) hx hb d_law_law_469 (by decide) ?_
        refine lv_iadd hx hb d_law_law_470 ?_
        rw [show ((nI i) + 2) = (nI (i + 2)) from nI_add _ _]
        refine va_sld hx hb hX hbl hbA hw.2.2.2.1 (vp_in_nI (n := i + 2) (by omega) (by omega)) d_law_law_471 ?_
        rw [nI_clamp (n := i + 2) (by omega)]
        refine x_cl (x_runV (na := 2) (k := 75) (As := [.int (xs (i + 1)), .int (xs (i + 2))]) (rest := [.long v458]) (ci := 7) ⟨hx, hb, hml, hown, ht⟩ (m_M_score (u := u458) (xs (i + 1)) (xs (i + 2)) (nM u458) hM.n4 hM.s11 hM.k3 _) w_645 w_646 w_647 w_9 w_648 (by decide +kernel) ⟨rfl, rfl, Nat.le_of_ble_eq_true rfl, Nat.le_of_ble_eq_true rfl⟩ hw (by decide) o_M rfl rfl hl.1 rfl (Nat.le_of_ble_eq_true rfl) d_law_law_472 ⟨Nat.le_refl _, Nat.le_refl _⟩) hw hA (fun v472 u472 H locs hp hw => ?_)
        have e472 : v472 = (scoM u458 (xs (i + 1)) (xs (i + 2)) (nM u458)).1 := congrArg Prod.fst hp
        have hu472 : u472 = (scoM u458 (xs (i + 1)) (xs (i + 2)) (nM u458)).2 := congrArg Prod.snd hp
        have hI9 : Jnv u472 := by rw [hu472]; exact jnv_scoM hI1 _ _ _
        refine W.lcmp hx hb d_law_law_475 ?_
        refine lv_if_eq (tgt := 622) hx hb d_law_law_476 (by decide) (fun c476 => ?_) (fun c476 => absurd ((lg_cmp_eq _ _).mpr (show v458 = v472 by rw [e458, e472, hu458]; exact ans_score hI _ _)) c476)
        refine lv_iinc (v := ((nI i) + 4)) (lv' := [(3, .int ((nI i) + 4)), (0, .ref b), (1, .ref (ad 0)), (2, .ref (ad 75))]) hx hb d_law_law_622 hl (k := 0) rfl rfl (by decide) rfl (fun ls hl => ?_)
        refine lv_goto (tgt := 18) hx hb d_law_law_625 (by decide) ?_
        exact ih18 (i + 4) (u472) (by omega) (hI9) (fun z9 => absurd z9 (by omega)) (by omega) _ _ hw ls (by rw [← (show ((nI i) + 4) = (nI (i + 4)) from nI_add i 4)]; exact lv_sub hl [0, 1, 2, 3] rfl)
      by_cases s32_10 : y32 = 10
      · subst s32_10
        refine lv_tableIn (tgt := 481) hx hb d_law_law_32 (by decide) (by decide) rfl (by decide) ?_
        refine lv_aload_n hx hb d_law_law_481 rfl (lv_at hl 2 rfl) ?_
        refine lv_aload_n hx hb d_law_law_482 rfl (lv_at hl 1 rfl) ?_
        refine lv_iload_n hx hb d_law_law_483 rfl (lv_at hl 0 rfl) ?_
        refine lv_iconst (v := 1) hx hb d_law_law_484 (by decide) ?_
        refine lv_iadd hx hb d_law_law_485 ?_
        rw [show ((nI i) + 1) = (nI (i + 1)) from nI_add _ _]
        refine va_sld hx hb hX hbl hbA hw.2.2.2.1 (vp_in_nI (n := i + 1) (by omega) (by omega)) d_law_law_486 ?_
        rw [nI_clamp (n := i + 1) (by omega)]
        refine lv_aload_n hx hb d_law_law_487 rfl (lv_at hl 1 rfl) ?_
        refine lv_iload_n hx hb d_law_law_488 rfl (lv_at hl 0 rfl) ?_
        refine lv_iconst (v := 2) hx hb d_law_law_489 (by decide) ?_
        refine lv_iadd hx hb d_law_law_490 ?_
        rw [show ((nI i) + 2) = (nI (i + 2)) from nI_add _ _]
        refine va_sld hx hb hX hbl hbA hw.2.2.2.1 (vp_in_nI (n := i + 2) (by omega) (by omega)) d_law_law_491 ?_
        rw [nI_clamp (n := i + 2) (by omega)]
        refine lv_if_eq (tgt := 499) hx hb d_law_law_492 (by decide) (fun c492 => ?_) (fun c492 => ?_)
        · refine lv_iconst (v := 0) hx hb d_law_law_499 (by decide) ?_
          refine x_cl (x_runV (na := 2) (k := 0) (As := [.int (xs (i + 1)), .int 0]) (rest := []) (ci := 6) ⟨hx, hb, hml, hown, ht⟩ (m_X_merit (u := u) (xs (i + 1)) 0 (nX u) hI.x.nn hI.x.n4 hI.x.s2 hI.x.tT hI.x.d0 _) w_403 w_404 w_405 w_1 w_406 (by decide +kernel) ⟨rfl, rfl, Nat.le_of_ble_eq_true rfl, Nat.le_of_ble_eq_true rfl⟩ hw (by decide) o_X rfl rfl hl.1 rfl (Nat.le_of_ble_eq_true rfl) d_law_law_500 ⟨Nat.le_refl _, Nat.le_refl _⟩) hw hA (fun v500 u500 H locs hp hw => ?_)
          have e500 : v500 = (merX u (xs (i + 1)) 0 (nX u)).1 := congrArg Prod.fst hp
          have hu500 : u500 = (merX u (xs (i + 1)) 0 (nX u)).2 := congrArg Prod.snd hp
          have hI1 : Jnv u500 := by rw [hu500]; exact hI.ox (OX_merX hI.x.d0)
          have hM := hI1.m
          refine lv_aload_n hx hb d_law_law_503 rfl (lv_at hl 3 rfl) ?_
          refine lv_aload_n hx hb d_law_law_504 rfl (lv_at hl 1 rfl) ?_
          refine lv_iload_n hx hb d_law_law_505 rfl (lv_at hl 0 rfl) ?_
          refine lv_iconst (v := 1) hx hb d_law_law_506 (by decide) ?_
          refine lv_iadd hx hb d_law_law_507 ?_
          rw [show ((nI i) + 1) = (nI (i + 1)) from nI_add _ _]
          refine va_sld hx hb hX hbl hbA hw.2.2.2.1 (vp_in_nI (n := i + 1) (by omega) (by omega)) d_law_law_508 ?_
          rw [nI_clamp (n := i + 1) (by omega)]
          refine lv_aload_n hx hb d_law_law_509 rfl (lv_at hl 1 rfl) ?_
          refine lv_iload_n hx hb d_law_law_510 rfl (lv_at hl 0 rfl) ?_
          refine lv_iconst (v := 2) hx hb d_law_law_511 (by decide) ?_
          refine lv_iadd hx hb d_law_law_512 ?_
          rw [show ((nI i) + 2) = (nI (i + 2)) from nI_add _ _]
          refine va_sld hx hb hX hbl hbA hw.2.2.2.1 (vp_in_nI (n := i + 2) (by omega) (by omega)) d_law_law_513 ?_
          rw [nI_clamp (n := i + 2) (by omega)]
          refine lv_if_eq (tgt := 521) hx hb d_law_law_514 (by decide) (fun c514 => ?_) (fun c514 => absurd c492 c514)
          refine lv_iconst (v := 0) hx hb d_law_law_521 (by decide) ?_
          refine x_cl (x_runV (na := 2) (k := 75) (As := [.int (xs (i + 1)), .int 0]) (rest := [.long v500]) (ci := 7) ⟨hx, hb, hml, hown, ht⟩ (m_M_merit (u := u500) (xs (i + 1)) 0 (aM u500) (nM u500) hM.a16 hM.s10 hM.c88 hM.n4 hM.s11 hM.k3 hM.c89 hM.g7 _) w_650 w_651 w_652 w_9 w_653 (by decide +kernel) ⟨rfl, rfl, Nat.le_of_ble_eq_true rfl, Nat.le_of_ble_eq_true rfl⟩ hw (by decide) o_M rfl rfl hl.1 rfl (Nat.le_of_ble_eq_true rfl) d_law_law_522 ⟨Nat.le_refl _, Nat.le_refl _⟩) hw hA (fun v522 u522 H locs hp hw => ?_)
          have e522 : v522 = (merM u500 (xs (i + 1)) 0 (aM u500) (nM u500)).1 := congrArg Prod.fst hp
          have hu522 : u522 = (merM u500 (xs (i + 1)) 0 (aM u500) (nM u500)).2 := congrArg Prod.snd hp
          have hI9 : Jnv u522 := by rw [hu522]; exact jnv_merM hI1 _ _ _
          refine W.lcmp hx hb d_law_law_525 ?_
          refine lv_if_eq (tgt := 622) hx hb d_law_law_526 (by decide) (fun c526 => ?_) (fun c526 => absurd ((lg_cmp_eq _ _).mpr (show v500 = v522 by rw [e500, e522, hu500]; exact ans_merit hI _ _)) c526)
          refine lv_iinc (v := ((nI i) + 4)) (lv' := [(3, .int ((nI i) + 4)), (0, .ref b), (1, .ref (ad 0)), (2, .ref (ad 75))]) hx hb d_law_law_622 hl (k := 0) rfl rfl (by decide) rfl (fun ls hl => ?_)
          refine lv_goto (tgt := 18) hx hb d_law_law_625 (by decide) ?_
          exact ih18 (i + 4) (u522) (by omega) (hI9) (fun z9 => absurd z9 (by omega)) (by omega) _ _ hw ls (by rw [← (show ((nI i) + 4) = (nI (i + 4)) from nI_add i 4)]; exact lv_sub hl [0, 1, 2, 3] rfl)
        · refine lv_iconst (v := 1) hx hb d_law_law_495 (by decide) ?_
          refine lv_goto (tgt := 500) hx hb d_law_law_496 (by decide) ?_
          refine x_cl (x_runV (na := 2) (k := 0) (As := [.int (xs (i + 1)), .int 1]) (rest := []) (ci := 6) ⟨hx, hb, hml, hown, ht⟩ (m_X_merit (u := u) (xs (i + 1)) 1 (nX u) hI.x.nn hI.x.n4 hI.x.s2 hI.x.tT hI.x.d0 _) w_403 w_404 w_405 w_1 w_406 (by decide +kernel) ⟨rfl, rfl, Nat.le_of_ble_eq_true rfl, Nat.le_of_ble_eq_true rfl⟩ hw (by decide) o_X rfl rfl hl.1 rfl (Nat.le_of_ble_eq_true rfl) d_law_law_500 ⟨Nat.le_refl _, Nat.le_refl _⟩) hw hA (fun v500 u500 H locs hp hw => ?_)
          have e500 : v500 = (merX u (xs (i + 1)) 1 (nX u)).1 := congrArg Prod.fst hp
          have hu500 : u500 = (merX u (xs (i + 1)) 1 (nX u)).2 := congrArg Prod.snd hp
          have hI1 : Jnv u500 := by rw [hu500]; exact hI.ox (OX_merX hI.x.d0)
          have hM := hI1.m
          refine lv_aload_n hx hb d_law_law_503 rfl (lv_at hl 3 rfl) ?_
          refine lv_aload_n hx hb d_law_law_504 rfl (lv_at hl 1 rfl) ?_
          refine lv_iload_n hx hb d_law_law_505 rfl (lv_at hl 0 rfl) ?_
          refine lv_iconst (v := 1) hx hb d_law_law_506 (by decide) ?_
          refine lv_iadd hx hb d_law_law_507 ?_
          rw [show ((nI i) + 1) = (nI (i + 1)) from nI_add _ _]
          refine va_sld hx hb hX hbl hbA hw.2.2.2.1 (vp_in_nI (n := i + 1) (by omega) (by omega)) d_law_law_508 ?_
          rw [nI_clamp (n := i + 1) (by omega)]
          refine lv_aload_n hx hb d_law_law_509 rfl (lv_at hl 1 rfl) ?_
          refine lv_iload_n hx hb d_law_law_510 rfl (lv_at hl 0 rfl) ?_
          refine lv_iconst (v := 2) hx hb d_law_law_511 (by decide) ?_
          refine lv_iadd hx hb d_law_law_512 ?_
          rw [show ((nI i) + 2) = (nI (i + 2)) from nI_add _ _]
          refine va_sld hx hb hX hbl hbA hw.2.2.2.1 (vp_in_nI (n := i + 2) (by omega) (by omega)) d_law_law_513 ?_
          rw [nI_clamp (n := i + 2) (by omega)]
          refine lv_if_eq (tgt := 521) hx hb d_law_law_514 (by decide) (fun c514 => absurd c514 c492) (fun c514 => ?_)
          refine lv_iconst (v := 1) hx hb d_law_law_517 (by decide) ?_
          refine lv_goto (tgt := 522) hx hb d_law_law_518 (by decide) ?_
          refine x_cl (x_runV (na := 2) (k := 75) (As := [.int (xs (i + 1)), .int 1]) (rest := [.long v500]) (ci := 7) ⟨hx, hb, hml, hown, ht⟩ (m_M_merit (u := u500) (xs (i + 1)) 1 (aM u500) (nM u500) hM.a16 hM.s10 hM.c88 hM.n4 hM.s11 hM.k3 hM.c89 hM.g7 _) w_650 w_651 w_652 w_9 w_653 (by decide +kernel) ⟨rfl, rfl, Nat.le_of_ble_eq_true rfl, Nat.le_of_ble_eq_true rfl⟩ hw (by decide) o_M rfl rfl hl.1 rfl (Nat.le_of_ble_eq_true rfl) d_law_law_522 ⟨Nat.le_refl _, Nat.le_refl _⟩) hw hA (fun v522 u522 H locs hp hw => ?_)
          have e522 : v522 = (merM u500 (xs (i + 1)) 1 (aM u500) (nM u500)).1 := congrArg Prod.fst hp
          have hu522 : u522 = (merM u500 (xs (i + 1)) 1 (aM u500) (nM u500)).2 := congrArg Prod.snd hp
          have hI9 : Jnv u522 := by rw [hu522]; exact jnv_merM hI1 _ _ _
          refine W.lcmp hx hb d_law_law_525 ?_
          refine lv_if_eq (tgt := 622) hx hb d_law_law_526 (by decide) (fun c526 => ?_) (fun c526 => absurd ((lg_cmp_eq _ _).mpr (show v500 = v522 by rw [e500, e522, hu500]; exact ans_merit hI _ _)) c526)
          refine lv_iinc (v := ((nI i) + 4)) (lv' := [(3, .int ((nI i) + 4)), (0, .ref b), (1, .ref (ad 0)), (2, .ref (ad 75))]) hx hb d_law_law_622 hl (k := 0) rfl rfl (by decide) rfl (fun ls hl => ?_)
          refine lv_goto (tgt := 18) hx hb d_law_law_625 (by decide) ?_
          exact ih18 (i + 4) (u522) (by omega) (hI9) (fun z9 => absurd z9 (by omega)) (by omega) _ _ hw ls (by rw [← (show ((nI i) + 4) = (nI (i + 4)) from nI_add i 4)]; exact lv_sub hl [0, 1, 2, 3] rfl)
      by_cases s32_11 : y32 = 11
      · subst s32_11
        refine lv_tableIn (tgt := 531) hx hb d_law_law_32 (by decide) (by decide) rfl (by decide) ?_
        refine lv_aload_n hx hb d_law_law_531 rfl (lv_at hl 2 rfl) ?_
        refine lv_aload_n hx hb d_law_law_532 rfl (lv_at hl 1 rfl) ?_
        refine lv_iload_n hx hb d_law_law_533 rfl (lv_at hl 0 rfl) ?_
        refine lv_iconst (v := 1) hx hb d_law_law_534 (by decide) ?_
        refine lv_iadd hx hb d_law_law_535 ?_
        rw [show ((nI i) + 1) = (nI (i + 1)) from nI_add _ _]
        refine va_sld hx hb hX hbl hbA hw.2.2.2.1 (vp_in_nI (n := i + 1) (by omega) (by omega)) d_law_law_536 ?_
        rw [nI_clamp (n := i + 1) (by omega)]
        refine x_cl (x_runV (na := 1) (k := 0) (As := [.int (xs (i + 1))]) (rest := []) (ci := 6) ⟨hx, hb, hml, hown, ht⟩ (m_X_rest (u := u) (xs (i + 1)) (nX u) hI.x.nn hI.x.n4 hI.x.s2 hI.x.tT _) w_408 w_409 w_410 w_1 w_411 (by decide +kernel) ⟨rfl, rfl, Nat.le_of_ble_eq_true rfl, Nat.le_of_ble_eq_true rfl⟩ hw (by decide) o_X rfl rfl hl.1 rfl (Nat.le_of_ble_eq_true rfl) d_law_law_537 ⟨Nat.le_refl _, Nat.le_refl _⟩) hw hA (fun v537 u537 H locs hp hw => ?_)
        have e537 : v537 = (rstX u (xs (i + 1)) (nX u)).1 := congrArg Prod.fst hp
        have hu537 : u537 = (rstX u (xs (i + 1)) (nX u)).2 := congrArg Prod.snd hp
        have hI1 : Jnv u537 := by rw [hu537]; exact hI.ox OX_rstX
        have hM := hI1.m
        refine lv_aload_n hx hb d_law_law_540 rfl (lv_at hl 3 rfl) ?_
        refine lv_aload_n hx hb d_law_law_541 rfl (lv_at hl 1 rfl) ?_
        refine lv_iload_n hx hb d_law_law_542 rfl (lv_at hl 0 rfl) ?_
        refine lv_iconst (v := 1) hx hb d_law_law_543 (by decide) ?_
        refine lv_iadd hx hb d_law_law_544 ?_
        rw [show ((nI i) + 1) = (nI (i + 1)) from nI_add _ _]
        refine va_sld hx hb hX hbl hbA hw.2.2.2.1 (vp_in_nI (n := i + 1) (by omega) (by omega)) d_law_law_545 ?_
        rw [nI_clamp (n := i + 1) (by omega)]
        refine x_cl (x_runV (na := 1) (k := 75) (As := [.int (xs (i + 1))]) (rest := [.long v537]) (ci := 7) ⟨hx, hb, hml, hown, ht⟩ (m_M_rest (u := u537) (xs (i + 1)) (nM u537) hM.n4 hM.s11 hM.k3 _) w_655 w_656 w_657 w_9 w_658 (by decide +kernel) ⟨rfl, rfl, Nat.le_of_ble_eq_true rfl, Nat.le_of_ble_eq_true rfl⟩ hw (by decide) o_M rfl rfl hl.1 rfl (Nat.le_of_ble_eq_true rfl) d_law_law_546 ⟨Nat.le_refl _, Nat.le_refl _⟩) hw hA (fun v546 u546 H locs hp hw => ?_)
        have e546 : v546 = (rstM u537 (xs (i + 1)) (nM u537)).1 := congrArg Prod.fst hp
        have hu546 : u546 = (rstM u537 (xs (i + 1)) (nM u537)).2 := congrArg Prod.snd hp
        have hI9 : Jnv u546 := by rw [hu546]; exact hI1
        refine W.lcmp hx hb d_law_law_549 ?_
        refine lv_if_eq (tgt := 622) hx hb d_law_law_550 (by decide) (fun c550 => ?_) (fun c550 => absurd ((lg_cmp_eq _ _).mpr (show v537 = v546 by rw [e537, e546, hu537]; exact ans_rest hI _)) c550)
        refine lv_iinc (v := ((nI i) + 4)) (lv' := [(3, .int ((nI i) + 4)), (0, .ref b), (1, .ref (ad 0)), (2, .ref (ad 75))]) hx hb d_law_law_622 hl (k := 0) rfl rfl (by decide) rfl (fun ls hl => ?_)
        refine lv_goto (tgt := 18) hx hb d_law_law_625 (by decide) ?_
        exact ih18 (i + 4) (u546) (by omega) (hI9) (fun z9 => absurd z9 (by omega)) (by omega) _ _ hw ls (by rw [← (show ((nI i) + 4) = (nI (i + 4)) from nI_add i 4)]; exact lv_sub hl [0, 1, 2, 3] rfl)
      by_cases s32_12 : y32 = 12
      · subst s32_12
        refine lv_tableIn (tgt := 555) hx hb d_law_law_32 (by decide) (by decide) rfl (by decide) ?_
        refine lv_aload_n hx hb d_law_law_555 rfl (lv_at hl 2 rfl) ?_
        refine lv_aload_n hx hb d_law_law_556 rfl (lv_at hl 1 rfl) ?_
        refine lv_iload_n hx hb d_law_law_557 rfl (lv_at hl 0 rfl) ?_
        refine lv_iconst (v := 1) hx hb d_law_law_558 (by decide) ?_
        refine lv_iadd hx hb d_law_law_559 ?_
        rw [show ((nI i) + 1) = (nI (i + 1)) from nI_add _ _]
        refine va_sld hx hb hX hbl hbA hw.2.2.2.1 (vp_in_nI (n := i + 1) (by omega) (by omega)) d_law_law_560 ?_
        rw [nI_clamp (n := i + 1) (by omega)]
        refine lv_aload_n hx hb d_law_law_561 rfl (lv_at hl 1 rfl) ?_
        refine lv_iload_n hx hb d_law_law_562 rfl (lv_at hl 0 rfl) ?_
        refine lv_iconst (v := 2) hx hb d_law_law_563 (by decide) ?_
        refine lv_iadd hx hb d_law_law_564 ?_
        rw [show ((nI i) + 2) = (nI (i + 2)) from nI_add _ _]
        refine va_sld hx hb hX hbl hbA hw.2.2.2.1 (vp_in_nI (n := i + 2) (by omega) (by omega)) d_law_law_565 ?_
        rw [nI_clamp (n := i + 2) (by omega)]
        refine lv_aload_n hx hb d_law_law_566 rfl (lv_at hl 1 rfl) ?_
        refine lv_iload_n hx hb d_law_law_567 rfl (lv_at hl 0 rfl) ?_
        refine lv_iconst (v := 3) hx hb d_law_law_568 (by decide) ?_
        refine lv_iadd hx hb d_law_law_569 ?_
        rw [show ((nI i) + 3) = (nI (i + 3)) from nI_add _ _]
        refine va_sld hx hb hX hbl hbA hw.2.2.2.1 (vp_in_nI (n := i + 3) (by omega) (by omega)) d_law_law_570 ?_
        rw [nI_clamp (n := i + 3) (by omega)]
        refine x_cl (x_runV (na := 3) (k := 0) (As := [.int (xs (i + 1)), .int (xs (i + 2)), .int (xs (i + 3))]) (rest := []) (ci := 6) ⟨hx, hb, hml, hown, ht⟩ (m_X_node (u := u) (xs (i + 1)) (xs (i + 2)) (xs (i + 3)) (nX u) hI.x.n4 hI.x.s2 _) w_417 w_418 w_419 w_1 w_420 (by decide +kernel) ⟨rfl, rfl, Nat.le_of_ble_eq_true rfl, Nat.le_of_ble_eq_true rfl⟩ hw (by decide) o_X rfl rfl hl.1 rfl (Nat.le_of_ble_eq_true rfl) d_law_law_571 ⟨Nat.le_refl _, Nat.le_refl _⟩) hw hA (fun v571 u571 H locs hp hw => ?_)
        have e571 : v571 = (nodX u (xs (i + 1)) (xs (i + 2)) (xs (i + 3)) (nX u)).1 := congrArg Prod.fst hp
        have hu571 : u571 = (nodX u (xs (i + 1)) (xs (i + 2)) (xs (i + 3)) (nX u)).2 := congrArg Prod.snd hp
        have hI1 : Jnv u571 := by rw [hu571]; exact hI.ox OX_nodX
        have hM := hI1.m
        refine lv_aload_n hx hb d_law_law_574 rfl (lv_at hl 3 rfl) ?_
        refine lv_aload_n hx hb d_law_law_575 rfl (lv_at hl 1 rfl) ?_
        refine lv_iload_n hx hb d_law_law_576 rfl (lv_at hl 0 rfl) ?_
        refine lv_iconst (v := 1) hx hb d_law_law_577 (by decide) ?_
        refine lv_iadd hx hb d_law_law_578 ?_
        rw [show ((nI i) + 1) = (nI (i + 1)) from nI_add _ _]
        refine va_sld hx hb hX hbl hbA hw.2.2.2.1 (vp_in_nI (n := i + 1) (by omega) (by omega)) d_law_law_579 ?_
        rw [nI_clamp (n := i + 1) (by omega)]
        refine lv_aload_n hx hb d_law_law_580 rfl (lv_at hl 1 rfl) ?_
        refine lv_iload_n hx hb d_law_law_581 rfl (lv_at hl 0 rfl) ?_
        refine lv_iconst (v := 2) hx hb d_law_law_582 (by decide) ?_
        refine lv_iadd hx hb d_law_law_583 ?_
        rw [show ((nI i) + 2) = (nI (i + 2)) from nI_add _ _]
        refine va_sld hx hb hX hbl hbA hw.2.2.2.1 (vp_in_nI (n := i + 2) (by omega) (by omega)) d_law_law_584 ?_
        rw [nI_clamp (n := i + 2) (by omega)]
        refine lv_aload_n hx hb d_law_law_585 rfl (lv_at hl 1 rfl) ?_
        refine lv_iload_n hx hb d_law_law_586 rfl (lv_at hl 0 rfl) ?_
        refine lv_iconst (v := 3) hx hb d_law_law_587 (by decide) ?_
        refine lv_iadd hx hb d_law_law_588 ?_
        rw [show ((nI i) + 3) = (nI (i + 3)) from nI_add _ _]
        refine va_sld hx hb hX hbl hbA hw.2.2.2.1 (vp_in_nI (n := i + 3) (by omega) (by omega)) d_law_law_589 ?_
        rw [nI_clamp (n := i + 3) (by omega)]
        refine x_cl (x_runV (na := 3) (k := 75) (As := [.int (xs (i + 1)), .int (xs (i + 2)), .int (xs (i + 3))]) (rest := [.long v571]) (ci := 7) ⟨hx, hb, hml, hown, ht⟩ (m_M_node (u := u571) (xs (i + 1)) (xs (i + 2)) (xs (i + 3)) (nM u571) hM.n4 hM.s11 _) w_659 w_660 w_661 w_9 w_662 (by decide +kernel) ⟨rfl, rfl, Nat.le_of_ble_eq_true rfl, Nat.le_of_ble_eq_true rfl⟩ hw (by decide) o_M rfl rfl hl.1 rfl (Nat.le_of_ble_eq_true rfl) d_law_law_590 ⟨Nat.le_refl _, Nat.le_refl _⟩) hw hA (fun v590 u590 H locs hp hw => ?_)
        have e590 : v590 = (nodM u571 (xs (i + 1)) (xs (i + 2)) (xs (i + 3)) (nM u571)).1 := congrArg Prod.fst hp
        have hu590 : u590 = (nodM u571 (xs (i + 1)) (xs (i + 2)) (xs (i + 3)) (nM u571)).2 := congrArg Prod.snd hp
        have hI9 : Jnv u590 := by rw [hu590]; exact jnv_nodM hI1 _ _ _ _
        refine W.lcmp hx hb d_law_law_593 ?_
        refine lv_if_eq (tgt := 622) hx hb d_law_law_594 (by decide) (fun c594 => ?_) (fun c594 => absurd ((lg_cmp_eq _ _).mpr (show v571 = v590 by rw [e571, e590, hu571]; exact ans_node hI _ _ _)) c594)
        refine lv_iinc (v := ((nI i) + 4)) (lv' := [(3, .int ((nI i) + 4)), (0, .ref b), (1, .ref (ad 0)), (2, .ref (ad 75))]) hx hb d_law_law_622 hl (k := 0) rfl rfl (by decide) rfl (fun ls hl => ?_)
        refine lv_goto (tgt := 18) hx hb d_law_law_625 (by decide) ?_
        exact ih18 (i + 4) (u590) (by omega) (hI9) (fun z9 => absurd z9 (by omega)) (by omega) _ _ hw ls (by rw [← (show ((nI i) + 4) = (nI (i + 4)) from nI_add i 4)]; exact lv_sub hl [0, 1, 2, 3] rfl)
      by_cases s32_13 : y32 = 13
      · subst s32_13
        refine lv_tableIn (tgt := 599) hx hb d_law_law_32 (by decide) (by decide) rfl (by decide) ?_
        refine lv_aload_n hx hb d_law_law_599 rfl (lv_at hl 2 rfl) ?_
        refine lv_aload_n hx hb d_law_law_600 rfl (lv_at hl 1 rfl) ?_
        refine lv_iload_n hx hb d_law_law_601 rfl (lv_at hl 0 rfl) ?_
        refine lv_iconst (v := 1) hx hb d_law_law_602 (by decide) ?_
        refine lv_iadd hx hb d_law_law_603 ?_
        rw [show ((nI i) + 1) = (nI (i + 1)) from nI_add _ _]
        refine va_sld hx hb hX hbl hbA hw.2.2.2.1 (vp_in_nI (n := i + 1) (by omega) (by omega)) d_law_law_604 ?_
        rw [nI_clamp (n := i + 1) (by omega)]
        refine x_ci (x_runV (na := 1) (k := 0) (As := [.int (xs (i + 1))]) (rest := []) (ci := 6) ⟨hx, hb, hml, hown, ht⟩ (m_X_count (u := u) (xs (i + 1)) (nX u) hI.x.n4 hI.x.s2 _) w_446 w_447 w_448 w_1 w_449 (by decide +kernel) ⟨rfl, rfl, Nat.le_of_ble_eq_true rfl, Nat.le_of_ble_eq_true rfl⟩ hw (by decide) o_X rfl rfl hl.1 rfl (Nat.le_of_ble_eq_true rfl) d_law_law_605 ⟨Nat.le_refl _, Nat.le_refl _⟩) hw hA (fun v605 u605 H locs hp hw => ?_)
        have e605 : v605 = (cntX u (xs (i + 1)) (nX u)).1 := congrArg Prod.fst hp
        have hu605 : u605 = (cntX u (xs (i + 1)) (nX u)).2 := congrArg Prod.snd hp
        have hI1 : Jnv u605 := by rw [hu605]; exact hI.ox OX_cntX
        have hM := hI1.m
        refine lv_aload_n hx hb d_law_law_608 rfl (lv_at hl 3 rfl) ?_
        refine lv_aload_n hx hb d_law_law_609 rfl (lv_at hl 1 rfl) ?_
        refine lv_iload_n hx hb d_law_law_610 rfl (lv_at hl 0 rfl) ?_
        refine lv_iconst (v := 1) hx hb d_law_law_611 (by decide) ?_
        refine lv_iadd hx hb d_law_law_612 ?_
        rw [show ((nI i) + 1) = (nI (i + 1)) from nI_add _ _]
        refine va_sld hx hb hX hbl hbA hw.2.2.2.1 (vp_in_nI (n := i + 1) (by omega) (by omega)) d_law_law_613 ?_
        rw [nI_clamp (n := i + 1) (by omega)]
        refine x_ci (x_runV (na := 1) (k := 75) (As := [.int (xs (i + 1))]) (rest := [.int v605]) (ci := 7) ⟨hx, hb, hml, hown, ht⟩ (m_M_count (u := u605) (xs (i + 1)) (nM u605) hM.n4 hM.s11 _) w_664 w_665 w_666 w_9 w_667 (by decide +kernel) ⟨rfl, rfl, Nat.le_of_ble_eq_true rfl, Nat.le_of_ble_eq_true rfl⟩ hw (by decide) o_M rfl rfl hl.1 rfl (Nat.le_of_ble_eq_true rfl) d_law_law_614 ⟨Nat.le_refl _, Nat.le_refl _⟩) hw hA (fun v614 u614 H locs hp hw => ?_)
        have e614 : v614 = (cntM u605 (xs (i + 1)) (nM u605)).1 := congrArg Prod.fst hp
        have hu614 : u614 = (cntM u605 (xs (i + 1)) (nM u605)).2 := congrArg Prod.snd hp
        have hI9 : Jnv u614 := by rw [hu614]; exact jnv_cntM hI1 _ _
        refine lv_icmp_eq (tgt := 622) hx hb d_law_law_617 (by decide) (fun c617 => ?_) (fun c617 => absurd (show v605 = v614 by rw [e605, e614, hu605]; exact ans_count1 hI (hZ hi4) _) c617)
        refine lv_iinc (v := ((nI i) + 4)) (lv' := [(3, .int ((nI i) + 4)), (0, .ref b), (1, .ref (ad 0)), (2, .ref (ad 75))]) hx hb d_law_law_622 hl (k := 0) rfl rfl (by decide) rfl (fun ls hl => ?_)
        refine lv_goto (tgt := 18) hx hb d_law_law_625 (by decide) ?_
        exact ih18 (i + 4) (u614) (by omega) (hI9) (fun z9 => absurd z9 (by omega)) (by omega) _ _ hw ls (by rw [← (show ((nI i) + 4) = (nI (i + 4)) from nI_add i 4)]; exact lv_sub hl [0, 1, 2, 3] rfl)
      have n32_0 := lv_neT s32_0 (a := 0) rfl
      have n32_1 := lv_neT s32_1 (a := 1) rfl
      have n32_2 := lv_neT s32_2 (a := 2) rfl
      have n32_3 := lv_neT s32_3 (a := 3) rfl
      have n32_4 := lv_neT s32_4 (a := 4) rfl
      have n32_5 := lv_neT s32_5 (a := 5) rfl
      have n32_6 := lv_neT s32_6 (a := 6) rfl
      have n32_7 := lv_neT s32_7 (a := 7) rfl
      have n32_8 := lv_neT s32_8 (a := 8) rfl
      have n32_9 := lv_neT s32_9 (a := 9) rfl
      have n32_10 := lv_neT s32_10 (a := 10) rfl
      have n32_11 := lv_neT s32_11 (a := 11) rfl
      have n32_12 := lv_neT s32_12 (a := 12) rfl
      have n32_13 := lv_neT s32_13 (a := 13) rfl
      refine lv_tableOut (tgt := 622) hx hb d_law_law_32 (by omega) (by decide) ?_
      have hI9 := hI
      refine lv_iinc (v := ((nI i) + 4)) (lv' := [(3, .int ((nI i) + 4)), (0, .ref b), (1, .ref (ad 0)), (2, .ref (ad 75))]) hx hb d_law_law_622 hl (k := 0) rfl rfl (by decide) rfl (fun ls hl => ?_)
      refine lv_goto (tgt := 18) hx hb d_law_law_625 (by decide) ?_
      exact ih18 (i + 4) (u) (by omega) (hI9) (fun z9 => absurd z9 (by omega)) (by omega) _ _ hw ls (by rw [← (show ((nI i) + 4) = (nI (i + 4)) from nI_add i 4)]; exact lv_sub hl [0, 1, 2, 3] rfl)
