def gaS (w : St) (q d : Nat) : St := if liveF w q d = 0 then w else addS (measF w d (w.1 2 q)) (w.1 12 (q * 16 + d)) (w.2.2.1 3).toNatClampNeg
def gaR (w : St) (q : Nat) : Nat → St
  | 0 => w
  | d + 1 => gaS (gaR w q d) q d
def gaA (u : St) : Nat → St
  | 0 => sF u 3 0
  | q + 1 => gaR (gaA u q) q 16
def okO (w : St) (f i : Nat) : Prop := ∃ o : Nat, o < 16 ∧ w.1 (54 + f) i = nI o
theorem shO_ord {f n k : Nat} : ∀ (i : Nat) (w : St), i ≤ k → (∀ j, j < k + 1 → j ≠ i → okO w f j) → ((shO f n i w).2 ≤ k ∧ ∀ j, j < k + 1 → j ≠ (shO f n i w).2 → okO (shO f n i w).1 f j) := by
  intro i
  induction i with
  | zero => intro w _ h; exact ⟨Nat.zero_le _, h⟩
  | succ i ih =>
    intro w hi h
    simp only [shO]
    split
    · exact ⟨hi, h⟩
    · refine ih _ (by omega) (fun j hj hne => ?_)
      unfold okO
      rw [sI_eq]
      show ∃ o : Nat, o < 16 ∧ upd _ _ _ _ = _
      unfold upd
      split
      · exact h i (by omega) (by omega)
      · rename_i c; exact h j hj c
theorem insO_ord {u : St} {f n k : Nat} (hn : n < 16) (h : ∀ i, i < k → okO u f i) : ∀ i, i < k + 1 → okO (insO u f n k) f i := by
  intro i hi
  have hs := shO_ord (f := f) (n := n) (k := k) k u (Nat.le_refl k) (fun j hj hne => h j (by omega))
  unfold insO okO
  rw [sI_eq]
  show ∃ o : Nat, o < 16 ∧ upd _ _ _ _ = _
  unfold upd
  split
  · exact ⟨n, hn, rfl⟩
  · rename_i c; exact hs.2 i hi c
theorem addF_ne {u : St} {k c : Nat} (hk : k < 16) (hc : c < 38 ∨ 59 ≤ c) : ∀ f, f ≤ 5 → (addF u k f).1 c = u.1 c := by
  intro f
  induction f with
  | zero => intro _; rfl
  | succ f ih =>
    intro hf
    simp only [addF]
    rw [insO_ne (by omega), sI_ne (by omega)]
    exact ih (by omega)
theorem addF_2 {u : St} {k : Nat} : ∀ f, (addF u k f).2 = u.2 := by
  intro f
  induction f with
  | zero => rfl
  | succ f ih => simp only [addF]; rw [insO_2]; exact ih
theorem addF_ord {u : St} {k : Nat} (hk : k < 16) (h : ∀ f, f < 5 → ∀ i, i < k → okO u f i) : ∀ f, f ≤ 5 → ∀ f2, f2 < 5 → ∀ i, i < (if f2 < f then k + 1 else k) → okO (addF u k f) f2 i := by
  intro f
  induction f with
  | zero => intro _ f2 h2 i hi; rw [if_neg (by omega)] at hi; exact h f2 h2 i hi
  | succ f ih =>
    intro hf f2 h2 i hi
    simp only [addF]
    by_cases e : f2 = f
    · subst e
      rw [if_pos (by omega)] at hi
      refine insO_ord hk (fun j hj => ?_) i hi
      have := ih (by omega) f2 h2 j (by rw [if_neg (by omega)]; exact hj)
      unfold okO at this ⊢
      rw [sI_ne (by omega)]
      exact this
    · have := ih (by omega) f2 h2 i (by split; (rename_i z; rw [if_pos (by omega)] at hi; exact hi); (rename_i z; rw [if_neg (by omega)] at hi; exact hi))
      unfold okO at this ⊢
      rw [insO_ne (by omega), sI_ne (by omega)]
      exact this
/-- what gathering keeps -/
def OKX (u w : St) : Prop := (∃ k : Nat, k ≤ 16 ∧ w.2.2.1 3 = nI k ∧ ∀ f, f < 5 → ∀ i, i < k → ∃ o : Nat, o < 16 ∧ w.1 (54 + f) i = nI o) ∧ (∀ j, j ≠ 8 → (j < 38 ∨ 59 ≤ j) → w.1 j = u.1 j) ∧ (∀ j, j ≠ 15 → w.2.1 j = u.2.1 j) ∧ (∀ j, j ≠ 3 → w.2.2.1 j = u.2.2.1 j) ∧ w.2.2.2 = u.2.2.2
theorem gaS_ok {u w : St} {q d : Nat} (h : OKX u w) : OKX u (gaS w q d) := by
  obtain ⟨⟨k, hk16, hk3, hko⟩, h1, h2, h3, h4⟩ := h
  unfold gaS
  split
  · exact ⟨⟨k, hk16, hk3, hko⟩, h1, h2, h3, h4⟩
  · rw [hk3, nI_clamp (by omega)]
    unfold addS
    split
    · rename_i hk
      refine ⟨⟨k + 1, by omega, rfl, fun f hf i hi => ?_⟩, fun j h8 hj => ?_, fun j hj => ?_, fun j hj => ?_, ?_⟩
      · exact addF_ord hk (fun f hf i hi => by unfold okO; rw [meas_ne (by omega)]; exact hko f hf i hi) 5 (Nat.le_refl 5) f hf i (by rw [if_pos hf]; exact hi)
      · show (addF _ _ 5).1 j = _
        rw [addF_ne hk hj 5 (Nat.le_refl 5), meas_ne h8]
        exact h1 j h8 hj
      · show (sL (addF _ _ 5) 15 _ _).2.1 j = _
        rw [sL_ne hj, addF_2]
        exact h2 j hj
      · show upd ((sL (addF _ _ 5) 15 _ _).2.2.1) 3 _ j = _
        unfold upd
        rw [if_neg hj]
        show (addF _ _ 5).2.2.1 j = _
        rw [addF_2]
        exact h3 j hj
      · show (addF _ _ 5).2.2.2 = _
        rw [addF_2]
        exact h4
    · exact ⟨⟨k, hk16, hk3, fun f hf i hi => by rw [meas_ne (by omega)]; exact hko f hf i hi⟩, fun j h8 hj => by rw [meas_ne h8]; exact h1 j h8 hj, h2, h3, h4⟩
theorem gaR_ok' {u w : St} {q : Nat} (h : OKX u w) : ∀ d, OKX u (gaR w q d) := by
  intro d
  induction d with
  | zero => exact h
  | succ d ih => exact gaS_ok ih
theorem gaA_ok (u : St) : ∀ q, OKX u (gaA u q) := by
  intro q
  induction q with
  | zero => exact ⟨⟨0, by omega, rfl, fun f hf i hi => absurd hi (by omega)⟩, fun _ _ _ => rfl, fun _ _ => rfl, fun j hj => by show upd _ 3 _ j = _; unfold upd; rw [if_neg hj], rfl⟩
  | succ q ih => exact gaR_ok' ih 16
theorem gaR_ok (u : St) (q d : Nat) (_ : q < 8) (_ : d < 16) : OKX u (gaR (gaA u q) q d) := gaR_ok' (gaA_ok u q) d
set_option maxHeartbeats 4000000 in
set_option maxRecDepth 100000 in
theorem m_X_gatherSamples {l : Launch} {D : va_G} {g : Ids} {ad : Nat → Nat} {u : St} (hnn : ∀ d, d < 16 → ∀ t, t < 12 → 0 ≤ u.1 (22 + d) t) : XMv l D g ad y_X_gatherSamples b_X_gatherSamples 3 (none) (rmN 3 64) [.ref (ad 0)] u (fun r => r = gaA u 8) := fun sz => x_met (by decide) (Nat.le_of_ble_eq_true rfl) (fun p e s m below meth c hsz hx hb hr hml hown ht hlk hw ls hl => by
  have hA : ∀ q, s.heap.size ≤ q → AX ad sz q := fun q h => Or.inr (hsz ▸ h)
  have hl : lv_has ls 3 [(0, .ref (ad 0))] := hl
  refine lv_aload_n hx hb d_X_gatherSamples_0 rfl (lv_at hl 0 rfl) ?_
  refine x_get (ci := 6) (k := 0) hx hb ht in_X hown hw (by decide) o_X rfl 4 (by decide) (ht _ w_148) rfl d_X_gatherSamples_1 ?_
  refine x_cv (x_runV (na := 0) (k := 5) (As := []) (rest := []) (ci := 1) ⟨hx, hb, hml, hown, ht⟩ (m_Gr_clear _) w_244 w_245 w_246 w_7 w_247 (by decide +kernel) ⟨rfl, rfl, by decide, by decide⟩ hw (by decide) o_Gr rfl rfl hl.1 rfl (Nat.le_of_ble_eq_true rfl) d_X_gatherSamples_4 ⟨Nat.zero_le _, Nat.zero_le _⟩) hw hA (fun u4 H locs hp hw => ?_)
  have hu := hp.symm
  subst hu
  refine lv_iconst (v := 0) hx hb d_X_gatherSamples_7 (by decide) ?_
  refine lv_istore_n (lv' := [(1, .int 0), (0, .ref (ad 0))]) hx hb d_X_gatherSamples_8 rfl hl (by decide) rfl (fun ls hl => ?_)
  have L9 : ∀ (n9 : Nat) (q : Nat), q ≤ 8 → 8 - q < n9 → ∀ (H : Heap) (locs : List Loc), XH D g ad (AX ad sz) s s.heap H locs (gaA u q) → ∀ ls : Array Slot, lv_has ls 3 [(1, .int (nI q)), (0, .ref (ad 0))] → W p l e (rmN 3 64) s m ([.ref (ad 0)] : List Value).toArray below meth c H locs 0 0 (MQ below (va_Qv (fun r => r = gaA u 8) (XB D g ad sz) (AX ad sz)) ([.ref (ad 0)] : List Value).toArray s 0 0 (AX ad sz)) (F0 m 9 ls []) := by
    intro n9
    induction n9 with
    | zero => intro q hq hz; exact absurd hz (by omega)
    | succ n9 ih9 =>
      intro q hq hnL9 H locs hw ls hl
      refine lv_iload_n hx hb d_X_gatherSamples_9 rfl (lv_at hl 0 rfl) ?_
      refine lv_bipush (v := 8) hx hb d_X_gatherSamples_10 (by decide) ?_
      refine lv_icmp_ge (tgt := 82) hx hb d_X_gatherSamples_12 (by decide) (fun c12 => ?_) (fun c12 => ?_)
      · have h12 : (8) ≤ (q) := (nI_leI (a := 8) (b := q) (by omega) (by omega)).mp c12
        exact x_vret hsz hx hb hr hlk hw (by rw [show q = 8 by omega]) d_X_gatherSamples_82
      · have h12 : ¬ (8) ≤ (q) := fun hz9 => c12 ((nI_leI (a := 8) (b := q) (by omega) (by omega)).mpr hz9)
        refine lv_iconst (v := 0) hx hb d_X_gatherSamples_15 (by decide) ?_
        refine lv_istore_n (lv' := [(2, .int 0), (1, .int (nI q)), (0, .ref (ad 0))]) hx hb d_X_gatherSamples_16 rfl hl (by decide) rfl (fun ls hl => ?_)
        have L17 : ∀ (n17 : Nat) (d : Nat), d ≤ 16 → 16 - d < n17 → ∀ (H : Heap) (locs : List Loc), XH D g ad (AX ad sz) s s.heap H locs (gaR (gaA u q) q d) → ∀ ls : Array Slot, lv_has ls 3 [(2, .int (nI d)), (1, .int (nI q)), (0, .ref (ad 0))] → W p l e (rmN 3 64) s m ([.ref (ad 0)] : List Value).toArray below meth c H locs 0 0 (MQ below (va_Qv (fun r => r = gaA u 8) (XB D g ad sz) (AX ad sz)) ([.ref (ad 0)] : List Value).toArray s 0 0 (AX ad sz)) (F0 m 17 ls []) := by
          intro n17
          induction n17 with
          | zero => intro d hd hz; exact absurd hz (by omega)
          | succ n17 ih17 =>
            intro d hd hnL17 H locs hw ls hl
            refine lv_iload_n hx hb d_X_gatherSamples_17 rfl (lv_at hl 0 rfl) ?_
            refine lv_bipush (v := 16) hx hb d_X_gatherSamples_18 (by decide) ?_
            refine lv_icmp_ge (tgt := 76) hx hb d_X_gatherSamples_20 (by decide) (fun c20 => ?_) (fun c20 => ?_)
            · have h20 : (16) ≤ (d) := (nI_leI (a := 16) (b := d) (by omega) (by omega)).mp c20
              refine lv_iinc (v := (nI (q + 1))) (lv' := [(1, .int (nI (q + 1))), (2, .int (nI d)), (0, .ref (ad 0))]) hx hb d_X_gatherSamples_76 hl (k := 1) rfl (nI_1 _) (by decide) rfl (fun ls hl => ?_)
              refine lv_goto (tgt := 9) hx hb d_X_gatherSamples_79 (by decide) ?_
              exact ih9 (q + 1) (by omega) (by omega) _ _ (by rw [show d = 16 by omega] at hw; exact hw) ls (lv_sub hl [0, 2] rfl)
            · have h20 : ¬ (16) ≤ (d) := fun hz9 => c20 ((nI_leI (a := 16) (b := d) (by omega) (by omega)).mpr hz9)
              obtain ⟨⟨k, hk16, hk3, hko⟩, hkc, -⟩ := gaR_ok u q d (by omega) (by omega)
              refine lv_aload_n hx hb d_X_gatherSamples_23 rfl (lv_at hl 2 rfl) ?_
              refine lv_iload_n hx hb d_X_gatherSamples_24 rfl (lv_at hl 1 rfl) ?_
              refine lv_iload_n hx hb d_X_gatherSamples_25 rfl (lv_at hl 0 rfl) ?_
              refine x_ci (x_runV (na := 2) (k := 0) (As := [.int (nI q), .int (nI d)]) (rest := []) (ci := 6) ⟨hx, hb, hml, hown, ht⟩ (m_X_isLive (u := (gaR (gaA u q) q d)) q d (by omega) (by omega) _) w_248 w_250 s_1 w_1 w_251 (by decide +kernel) ⟨rfl, rfl, by decide, by decide⟩ hw (by decide) o_X rfl rfl hl.1 rfl (Nat.le_of_ble_eq_true rfl) d_X_gatherSamples_26 ⟨Nat.zero_le _, Nat.zero_le _⟩) hw hA (fun v26 u26 H locs hp hw => ?_)
              obtain ⟨hv9, hu⟩ := hp
              subst hv9
              have hu := hu.symm
              subst hu
              refine lv_if_eq (tgt := 70) hx hb d_X_gatherSamples_29 (by decide) (fun c29 => ?_) (fun c29 => ?_)
              · refine lv_iinc (v := (nI (d + 1))) (lv' := [(2, .int (nI (d + 1))), (1, .int (nI q)), (0, .ref (ad 0))]) hx hb d_X_gatherSamples_70 hl (k := 0) rfl (nI_1 _) (by decide) rfl (fun ls hl => ?_)
                refine lv_goto (tgt := 17) hx hb d_X_gatherSamples_73 (by decide) ?_
                exact ih17 (d + 1) (by omega) (by omega) _ _ (by rw [show gaR (gaA u q) q (d + 1) = (gaR (gaA u q) q d) from by simp only [gaR]; unfold gaS; first | (rw [if_pos c29]; done) | (rw [if_neg c29, hk3, nI_clamp (by omega)]; done)]; exact hw) ls (lv_sub hl [0, 1, 2] rfl)
              · refine lv_aload_n hx hb d_X_gatherSamples_32 rfl (lv_at hl 2 rfl) ?_
                refine x_get (ci := 6) (k := 0) hx hb ht in_X hown hw (by decide) o_X rfl 0 (by decide) (ht _ w_144) rfl d_X_gatherSamples_33 ?_
                refine lv_iload_n hx hb d_X_gatherSamples_36 rfl (lv_at hl 0 rfl) ?_
                refine lv_aload_n hx hb d_X_gatherSamples_37 rfl (lv_at hl 2 rfl) ?_
                refine x_get (ci := 6) (k := 0) hx hb ht in_X hown hw (by decide) o_X rfl 1 (by decide) (ht _ w_145) rfl d_X_gatherSamples_38 ?_
                refine lv_iload_n hx hb d_X_gatherSamples_41 rfl (lv_at hl 1 rfl) ?_
                refine x_iald (k := 2) hx hb hw (by decide) rfl (vin (N := 8) (by omega) rfl (by omega)) d_X_gatherSamples_42 ?_
                rw [nI_clamp (n := q) (by omega)]
                refine lv_aload_n hx hb d_X_gatherSamples_43 rfl (lv_at hl 2 rfl) ?_
                refine x_get (ci := 6) (k := 0) hx hb ht in_X hown hw (by decide) o_X rfl 7 (by decide) (ht _ w_151) rfl d_X_gatherSamples_44 ?_
                refine x_cv (x_runV (na := 3) (k := 1) (As := [.int (nI d), .int ((gaR (gaA u q) q d).1 2 q), .ref (ad 8)]) (rest := []) (ci := 4) ⟨hx, hb, hml, hown, ht⟩ (m_Sh_measure (u := (gaR (gaA u q) q d)) d ((gaR (gaA u q) q d).1 2 q) (by omega) (fun t ht9 => by rw [hkc _ (by omega) (by omega)]; exact hnn d (by omega) t ht9) _) w_252 w_253 w_254 w_2 w_255 (by decide +kernel) ⟨rfl, rfl, by decide, by decide⟩ hw (by decide) o_Sh rfl rfl hl.1 rfl (Nat.le_of_ble_eq_true rfl) d_X_gatherSamples_47 ⟨Nat.zero_le _, Nat.zero_le _⟩) hw hA (fun u47 H locs hp hw => ?_)
                have hu := hp.symm
                subst hu
                refine lv_aload_n hx hb d_X_gatherSamples_50 rfl (lv_at hl 2 rfl) ?_
                refine x_get (ci := 6) (k := 0) hx hb ht in_X hown hw (by decide) o_X rfl 4 (by decide) (ht _ w_148) rfl d_X_gatherSamples_51 ?_
                refine lv_aload_n hx hb d_X_gatherSamples_54 rfl (lv_at hl 2 rfl) ?_
                refine x_get (ci := 6) (k := 0) hx hb ht in_X hown hw (by decide) o_X rfl 7 (by decide) (ht _ w_151) rfl d_X_gatherSamples_55 ?_
                refine lv_aload_n hx hb d_X_gatherSamples_58 rfl (lv_at hl 2 rfl) ?_
                refine x_get (ci := 6) (k := 0) hx hb ht in_X hown hw (by decide) o_X rfl 2 (by decide) (ht _ w_146) rfl d_X_gatherSamples_59 ?_
                refine lv_iload_n hx hb d_X_gatherSamples_62 rfl (lv_at hl 1 rfl) ?_
                refine lv_iload_n hx hb d_X_gatherSamples_63 rfl (lv_at hl 0 rfl) ?_
                refine x_ci (x_runV (na := 2) (k := 3) (As := [.int (nI q), .int (nI d)]) (rest := [.ref (ad 8), .ref (ad 5)]) (ci := 2) ⟨hx, hb, hml, hown, ht⟩ (m_Ju_gradeOf q d (by omega) (by omega) _) w_216 w_217 w_218 w_3 w_219 (by decide +kernel) ⟨rfl, rfl, by decide, by decide⟩ hw (by decide) o_Ju rfl rfl hl.1 rfl (Nat.le_of_ble_eq_true rfl) d_X_gatherSamples_64 ⟨Nat.zero_le _, Nat.zero_le _⟩) hw hA (fun v64 u64 H locs hp hw => ?_)
                obtain ⟨hv9, hu⟩ := hp
                subst hv9
                have hu := hu.symm
                subst hu
                rw [show ((measF (gaR (gaA u q) q d) d ((gaR (gaA u q) q d).1 2 q)).1 12 (q * 16 + d)) = ((gaR (gaA u q) q d).1 12 (q * 16 + d)) from by rw [meas_ne (by decide)]]
                refine x_cv (x_runV (na := 2) (k := 5) (As := [.ref (ad 8), .int ((gaR (gaA u q) q d).1 12 (q * 16 + d))]) (rest := []) (ci := 1) ⟨hx, hb, hml, hown, ht⟩ (m_Gr_addSample (u := (measF (gaR (gaA u q) q d) d ((gaR (gaA u q) q d).1 2 q))) ((gaR (gaA u q) q d).1 12 (q * 16 + d)) k hk16 hk3 (fun f hf i hi => by rw [meas_ne (by omega)]; exact hko f hf i hi) _) w_263 w_264 w_265 w_7 w_266 (by decide +kernel) ⟨rfl, rfl, by decide, by decide⟩ hw (by decide) o_Gr rfl rfl hl.1 rfl (Nat.le_of_ble_eq_true rfl) d_X_gatherSamples_67 ⟨Nat.zero_le _, Nat.zero_le _⟩) hw hA (fun u67 H locs hp hw => ?_)
                have hu := hp.symm
                subst hu
                refine lv_iinc (v := (nI (d + 1))) (lv' := [(2, .int (nI (d + 1))), (1, .int (nI q)), (0, .ref (ad 0))]) hx hb d_X_gatherSamples_70 hl (k := 0) rfl (nI_1 _) (by decide) rfl (fun ls hl => ?_)
                refine lv_goto (tgt := 17) hx hb d_X_gatherSamples_73 (by decide) ?_
                exact ih17 (d + 1) (by omega) (by omega) _ _ (by rw [show gaR (gaA u q) q (d + 1) = (addS (measF (gaR (gaA u q) q d) d ((gaR (gaA u q) q d).1 2 q)) ((gaR (gaA u q) q d).1 12 (q * 16 + d)) k) from by simp only [gaR]; unfold gaS; first | (rw [if_pos c29]; done) | (rw [if_neg c29, hk3, nI_clamp (by omega)]; done)]; exact hw) ls (lv_sub hl [0, 1, 2] rfl)
        exact L17 ((16 - 0) + 1) (0) (by omega) (by omega) _ _ hw ls (lv_sub hl [0, 1, 2] rfl)
  exact L9 ((8 - 0) + 1) (0) (by omega) (by omega) _ _ hw ls (lv_sub hl [0, 1] rfl))
