theorem sF_eq {u : St} {k : Nat} {x : Int32} : (sF u k x).2.2.1 k = x := if_pos rfl
theorem sF_ne {u : St} {k j : Nat} {x : Int32} (h : j ≠ k) : (sF u k x).2.2.1 j = u.2.2.1 j := if_neg h
theorem shift_keep {k : Nat} {x : Int64} : ∀ (i : Nat) (w : St), (∀ j, j ≠ 2 * k + 6 → (shiftF w k x i).1.1 j = w.1 j) ∧ (∀ j, j ≠ 2 * k + 7 → (shiftF w k x i).1.2.1 j = w.2.1 j) ∧ (shiftF w k x i).1.2.2 = w.2.2 := by
  intro i
  induction i with
  | zero => intro w; exact ⟨fun _ _ => rfl, fun _ _ => rfl, rfl⟩
  | succ i ih =>
    intro w
    simp only [shiftF]
    split
    · obtain ⟨h1, h2, h3⟩ := ih (sI (sL w (2 * k + 7) (i + 1) (w.2.1 (2 * k + 7) i)) (2 * k + 6) (i + 1) (w.1 (2 * k + 6) i))
      refine ⟨fun j hj => ?_, fun j hj => ?_, h3⟩
      · rw [h1 j hj, sI_ne hj]; rfl
      · rw [h2 j hj]; show (sL w _ _ _).2.1 j = _; rw [sL_ne hj]
    · exact ⟨fun _ _ => rfl, fun _ _ => rfl, rfl⟩
theorem shift_ok {k n : Nat} {x : Int64} {P : Int32 → Prop} : ∀ (i : Nat) (w : St), i ≤ n → (∀ j, j < n + 1 → j ≠ i → P (w.1 (2 * k + 6) j)) → ((shiftF w k x i).2 ≤ n ∧ ∀ j, j < n + 1 → j ≠ (shiftF w k x i).2 → P ((shiftF w k x i).1.1 (2 * k + 6) j)) := by
  intro i
  induction i with
  | zero => intro w _ h; exact ⟨Nat.zero_le _, h⟩
  | succ i ih =>
    intro w hi h
    simp only [shiftF]
    split
    · refine ih _ (by omega) (fun j hj hne => ?_)
      rw [sI_eq]
      show P (upd (w.1 (2 * k + 6)) _ _ _)
      unfold upd
      split
      · exact h i (by omega) (by omega)
      · rename_i q; exact h j hj q
    · exact ⟨hi, h⟩
theorem insF_keep {u : St} {k n : Nat} {d : Int32} {x : Int64} : (∀ j, j ≠ 2 * k + 6 → (insF u k d x n).1 j = u.1 j) ∧ (∀ j, j ≠ 2 * k + 7 → (insF u k d x n).2.1 j = u.2.1 j) ∧ (∀ j, j ≠ k + 2 → (insF u k d x n).2.2.1 j = u.2.2.1 j) ∧ (insF u k d x n).2.2.2 = u.2.2.2 := by
  obtain ⟨h1, h2, h3⟩ := shift_keep (k := k) (x := x) n u
  unfold insF
  split
  · refine ⟨fun j hj => ?_, fun j hj => ?_, fun j hj => ?_, ?_⟩
    · show (sI _ _ _ _).1 j = _
      rw [sI_ne hj]; exact h1 j hj
    · show (sL _ _ _ _).2.1 j = _
      rw [sL_ne hj]; exact h2 j hj
    · show upd _ _ _ j = _
      unfold upd
      rw [if_neg hj]
      show (shiftF u k x n).1.2.2.1 j = _
      rw [h3]
    · show (shiftF u k x n).1.2.2.2 = _
      rw [h3]
  · exact ⟨fun _ _ => rfl, fun _ _ => rfl, fun _ _ => rfl, rfl⟩
theorem insF_ok {u : St} {k n : Nat} {d : Int32} {x : Int64} {P : Int32 → Prop} (hn : n < 16) (hd : P d) (h : ∀ i, i < n → P (u.1 (2 * k + 6) i)) : (insF u k d x n).2.2.1 (k + 2) = nI (n + 1) ∧ ∀ i, i < n + 1 → P ((insF u k d x n).1 (2 * k + 6) i) := by
  have hs := shift_ok (k := k) (n := n) (x := x) (P := P) n u (Nat.le_refl n) (fun j hj hne => h j (by omega))
  rw [insF_eq hn]
  refine ⟨?_, fun i hi => ?_⟩
  · show upd _ _ _ _ = _
    unfold upd
    rw [if_pos rfl]
  · show P ((sI _ _ _ _).1 (2 * k + 6) i)
    rw [sI_eq]
    unfold upd
    split
    · exact hd
    · rename_i q; exact hs.2 i hi q
def ixD (x : Int32) : Prop := ∃ j : Nat, j < 16 ∧ x = nI j
def pcS (w : St) (q d : Nat) : St := if holdsF w (nI d) = 0 then w else if (measF w d (w.1 2 q)).1 8 0 ≤ 0 then measF w d (w.1 2 q) else insF (measF w d (w.1 2 q)) 6 (nI d) ((16 * (measF w d (w.1 2 q)).1 8 1 + 4 * (measF w d (w.1 2 q)).1 8 0 - (measF w d (w.1 2 q)).1 8 2).toInt64) (w.2.2.1 8).toNatClampNeg
def pcF (u : St) (q : Nat) : Nat → St
  | 0 => sF u 8 0
  | d + 1 => pcS (pcF u q d) q d
def cutF (w : St) : St := sF w 8 (if w.2.2.1 0 < w.2.2.1 8 then w.2.2.1 0 else w.2.2.1 8)
def pickF (u : St) (q : Nat) : St := cutF (pcF u q 16)
/-- what picking keeps; the number of candidates, and that they are documents -/
def OKC (u w : St) (d : Nat) : Prop := (∃ n : Nat, n ≤ d ∧ w.2.2.1 8 = nI n ∧ ∀ i, i < n → ixD (w.1 18 i)) ∧ (∀ j, j ≠ 8 → j ≠ 18 → w.1 j = u.1 j) ∧ (∀ j, j ≠ 19 → w.2.1 j = u.2.1 j) ∧ (∀ j, j ≠ 8 → w.2.2.1 j = u.2.2.1 j) ∧ w.2.2.2 = u.2.2.2
theorem pcF_ok (u : St) (q : Nat) : ∀ d, d ≤ 16 → OKC u (pcF u q d) d := by
  intro d
  induction d with
  | zero => intro _; exact ⟨⟨0, by omega, rfl, fun i hi => absurd hi (by omega)⟩, fun _ _ _ => rfl, fun _ _ => rfl, fun j hj => by show upd _ 8 _ j = _; unfold upd; rw [if_neg hj], rfl⟩
  | succ d ih =>
    intro hd
    obtain ⟨⟨n, hnd, hn8, hnj⟩, h1, h2, h3, h4⟩ := ih (by omega)
    simp only [pcF]
    generalize pcF u q d = w at hn8 hnj h1 h2 h3 h4 ⊢
    unfold pcS
    split
    · exact ⟨⟨n, by omega, hn8, hnj⟩, h1, h2, h3, h4⟩
    · split
      · exact ⟨⟨n, by omega, hn8, fun i hi => by rw [meas_ne (by decide)]; exact hnj i hi⟩, fun j h8 h18 => by rw [meas_ne h8]; exact h1 j h8 h18, h2, h3, h4⟩
      · rw [hn8, nI_clamp (by omega)]
        generalize (Int32.toInt64 (16 * (measF w d (w.1 2 q)).1 8 1 + 4 * (measF w d (w.1 2 q)).1 8 0 - (measF w d (w.1 2 q)).1 8 2)) = x
        obtain ⟨k1, k2, k3, k4⟩ := insF_keep (u := measF w d (w.1 2 q)) (k := 6) (n := n) (d := nI d) (x := x)
        obtain ⟨i1, i2⟩ := insF_ok (u := measF w d (w.1 2 q)) (k := 6) (n := n) (d := nI d) (x := x) (P := ixD) (by omega) ⟨d, by omega, rfl⟩ (fun i hi => by rw [meas_ne (by decide)]; exact hnj i hi)
        exact ⟨⟨n + 1, by omega, i1, i2⟩, fun j h8 h18 => by rw [k1 j h18, meas_ne h8]; exact h1 j h8 h18, fun j hj => by rw [k2 j hj]; exact h2 j hj, fun j hj => by rw [k3 j hj]; exact h3 j hj, by rw [k4]; exact h4⟩
theorem le_n31 {x : Int32} {n : Nat} (hn : n ≤ 100) (h : x < nI n) : x ≤ nI n := by
  rw [Int32.le_iff_toInt_le]
  rw [Int32.lt_iff_toInt_lt] at h
  omega
theorem pickF_ok (u : St) (q : Nat) (h0 : 0 ≤ u.2.2.1 0) : OKC u (pickF u q) 16 := by
  obtain ⟨⟨n, hnd, hn8, hnj⟩, h1, h2, h3, h4⟩ := pcF_ok u q 16 (Nat.le_refl 16)
  unfold pickF cutF
  generalize pcF u q 16 = w at hn8 hnj h1 h2 h3 h4 ⊢
  refine ⟨?_, h1, h2, fun j hj => ?_, h4⟩
  · split
    · rename_i c
      obtain ⟨z, hz, e⟩ : ∃ z : Nat, z ≤ n ∧ w.2.2.1 0 = nI z := by
        rw [h3 0 (by decide)] at c ⊢
        obtain ⟨z, hz, e⟩ := nI_of (gez h0)
        rw [hn8, e] at c
        exact ⟨z, Nat.le_of_lt ((nI_ltI (a := z) (b := n) hz (by omega)).mp c), e⟩
      exact ⟨z, by omega, by rw [sF_eq]; exact e, fun i hi => hnj i (by omega)⟩
    · exact ⟨n, hnd, by rw [sF_eq]; exact hn8, hnj⟩
  · show upd _ 8 _ j = _
    unfold upd
    rw [if_neg hj]
    exact h3 j hj
def raS (w : St) (q n i : Nat) : St := insF (measF w (w.1 18 i).toNatClampNeg (w.1 2 q)) 7 (w.1 18 i) (scoreF (measF w (w.1 18 i).toNatClampNeg (w.1 2 q)) 8 n) (w.2.2.1 9).toNatClampNeg
def raF (v : St) (q n : Nat) : Nat → St
  | 0 => sF v 9 0
  | i + 1 => raS (raF v q n i) q n i
def rankF (u : St) (q n : Nat) : St := raF (pickF u q) q n ((pickF u q).2.2.1 8).toNatClampNeg
def OKR (v w : St) (i : Nat) : Prop := (∃ b : Nat, b ≤ i ∧ w.2.2.1 9 = nI b ∧ ∀ j, j < b → ixD (w.1 20 j)) ∧ (∀ j, j ≠ 8 → j ≠ 20 → w.1 j = v.1 j) ∧ (∀ j, j ≠ 21 → w.2.1 j = v.2.1 j) ∧ (∀ j, j ≠ 9 → w.2.2.1 j = v.2.2.1 j) ∧ w.2.2.2 = v.2.2.2
theorem raF_ok (v : St) (q n a : Nat) (ha : a ≤ 16) (haj : ∀ i, i < a → ixD (v.1 18 i)) : ∀ i, i ≤ a → OKR v (raF v q n i) i := by
  intro i
  induction i with
  | zero => intro _; exact ⟨⟨0, by omega, rfl, fun i hi => absurd hi (by omega)⟩, fun _ _ _ => rfl, fun _ _ => rfl, fun j hj => by show upd _ 9 _ j = _; unfold upd; rw [if_neg hj], rfl⟩
  | succ i ih =>
    intro hi
    obtain ⟨⟨b, hbi, hb9, hbj⟩, h1, h2, h3, h4⟩ := ih (by omega)
    simp only [raF]
    generalize raF v q n i = w at hb9 hbj h1 h2 h3 h4 ⊢
    unfold raS
    rw [hb9, nI_clamp (by omega)]
    have hP : ixD (w.1 18 i) := by rw [h1 18 (by decide) (by decide)]; exact haj i (by omega)
    generalize w.1 18 i = y at hP ⊢
    generalize scoreF (measF w y.toNatClampNeg (w.1 2 q)) 8 n = x
    obtain ⟨k1, k2, k3, k4⟩ := insF_keep (u := measF w y.toNatClampNeg (w.1 2 q)) (k := 7) (n := b) (d := y) (x := x)
    obtain ⟨i1, i2⟩ := insF_ok (u := measF w y.toNatClampNeg (w.1 2 q)) (k := 7) (n := b) (d := y) (x := x) (P := ixD) (by omega) hP (fun i hi => by rw [meas_ne (by decide)]; exact hbj i hi)
    exact ⟨⟨b + 1, by omega, i1, i2⟩, fun j h8 h20 => by rw [k1 j h20, meas_ne h8]; exact h1 j h8 h20, fun j hj => by rw [k2 j hj]; exact h2 j hj, fun j hj => by rw [k3 j hj]; exact h3 j hj, by rw [k4]; exact h4⟩
set_option maxHeartbeats 4000000 in
set_option maxRecDepth 100000 in
theorem m_X_pickCandidates {l : Launch} {D : va_G} {g : Ids} {ad : Nat → Nat} {u : St} (q : Nat) (hq : q < 8) (hnn : ∀ d, d < 16 → ∀ t, t < 12 → 0 ≤ u.1 (22 + d) t) : XMr l D g ad y_X_pickCandidates b_X_pickCandidates 3 ((some (.object "LearnedRanker$Ranking"))) (rmN 2 51) [.ref (ad 0), .int (nI q)] u (fun r => r = (pickF u q, 6)) := fun sz => x_met (by decide) (Nat.le_of_ble_eq_true rfl) (fun p e s m below meth c hsz hx hb hr hml hown ht hlk hw ls hl => by
  have hA : ∀ q, s.heap.size ≤ q → AX ad sz q := fun q h => Or.inr (hsz ▸ h)
  have hl : lv_has ls 3 [(0, .ref (ad 0)), (1, .int (nI q))] := hl
  refine lv_aload_n hx hb d_X_pickCandidates_0 rfl (lv_at hl 0 rfl) ?_
  refine x_get (ci := 6) (k := 0) hx hb ht in_X hown hw (by decide) o_X rfl 5 (by decide) (ht _ w_149) rfl d_X_pickCandidates_1 ?_
  refine x_cv (x_runV (na := 0) (k := 6) (As := []) (rest := []) (ci := 3) ⟨hx, hb, hml, hown, ht⟩ (m_Ra_clear 6 (Or.inl rfl) _) w_368 w_369 w_370 w_8 w_371 (by decide +kernel) ⟨rfl, rfl, by decide, by decide⟩ hw (by omega) (o_Ra (Or.inl rfl)) rfl rfl hl.1 rfl (Nat.le_of_ble_eq_true rfl) d_X_pickCandidates_4 ⟨Nat.zero_le _, Nat.zero_le _⟩) hw hA (fun u4 H locs hp hw => ?_)
  have hu : u4 = sF u 8 0 := hp
  subst hu
  refine lv_iconst (v := 0) hx hb d_X_pickCandidates_7 (by decide) ?_
  refine lv_istore_n (lv' := [(2, .int 0), (0, .ref (ad 0)), (1, .int (nI q))]) hx hb d_X_pickCandidates_8 rfl hl (by decide) rfl (fun ls hl => ?_)
  have L9 : ∀ (n9 : Nat) (d : Nat) (w : St), d ≤ 16 → pcF u q d = w → 16 - d < n9 → ∀ (H : Heap) (locs : List Loc), XH D g ad (AX ad sz) s s.heap H locs w → ∀ ls : Array Slot, lv_has ls 3 [(2, .int (nI d)), (0, .ref (ad 0)), (1, .int (nI q))] → W p l e (rmN 2 51) s m ([.ref (ad 0), .int (nI q)] : List Value).toArray below meth c H locs 0 0 (MQ below (va_Qr (fun r => r = (pickF u q, 6)) (XBr D g ad sz) (AX ad sz)) ([.ref (ad 0), .int (nI q)] : List Value).toArray s 0 0 (AX ad sz)) (F0 m 9 ls []) := by
    intro n9
    induction n9 with
    | zero => intro d w hd hv hz; exact absurd hz (by omega)
    | succ n9 ih9 =>
      intro d w hd hv hnL9 H locs hw ls hl
      refine lv_iload_n hx hb d_X_pickCandidates_9 rfl (lv_at hl 0 rfl) ?_
      refine lv_bipush (v := 16) hx hb d_X_pickCandidates_10 (by decide) ?_
      refine lv_icmp_ge (tgt := 93) hx hb d_X_pickCandidates_12 (by decide) (fun c12 => ?_) (fun c12 => ?_)
      · have h12 : (16) ≤ (d) := (nI_leI (a := 16) (b := d) (by omega) (by omega)).mp c12
        refine lv_aload_n hx hb d_X_pickCandidates_93 rfl (lv_at hl 1 rfl) ?_
        refine x_get (ci := 6) (k := 0) hx hb ht in_X hown hw (by decide) o_X rfl 5 (by decide) (ht _ w_149) rfl d_X_pickCandidates_94 ?_
        refine lv_aload_n hx hb d_X_pickCandidates_97 rfl (lv_at hl 1 rfl) ?_
        refine x_get (ci := 6) (k := 0) hx hb ht in_X hown hw (by decide) o_X rfl 8 (by decide) (ht _ w_152) rfl d_X_pickCandidates_98 ?_
        refine x_cv (x_runV (na := 1) (k := 6) (As := [.int (w.2.2.1 0)]) (rest := []) (ci := 3) ⟨hx, hb, hml, hown, ht⟩ (m_Ra_cutAfter (u := w) 6 (w.2.2.1 0) (Or.inl rfl) _) w_376 w_377 w_378 w_8 w_379 (by decide +kernel) ⟨rfl, rfl, by decide, by decide⟩ hw (by omega) (o_Ra (Or.inl rfl)) rfl rfl hl.1 rfl (Nat.le_of_ble_eq_true rfl) d_X_pickCandidates_101 ⟨Nat.zero_le _, Nat.zero_le _⟩) hw hA (fun u101 H locs hp hw => ?_)
        have hu : u101 = cutF w := hp
        subst hu
        refine lv_aload_n hx hb d_X_pickCandidates_104 rfl (lv_at hl 1 rfl) ?_
        refine x_get (ci := 6) (k := 0) hx hb ht in_X hown hw (by decide) o_X rfl 5 (by decide) (ht _ w_149) rfl d_X_pickCandidates_105 ?_
        exact x_aret hsz hx hb hr (Or.inl ⟨_, rfl⟩) hlk hw (by unfold pickF; rw [show d = 16 by omega] at hv; rw [hv]) d_X_pickCandidates_108
      · have h12 : ¬ (16) ≤ (d) := fun hz9 => c12 ((nI_leI (a := 16) (b := d) (by omega) (by omega)).mpr hz9)
        obtain ⟨⟨n, hnd, hn8, hnj⟩, hkc, -⟩ : OKC u w d := hv ▸ pcF_ok u q d (by omega)
        refine lv_aload_n hx hb d_X_pickCandidates_15 rfl (lv_at hl 1 rfl) ?_
        refine x_get (ci := 6) (k := 0) hx hb ht in_X hown hw (by decide) o_X rfl 0 (by decide) (ht _ w_144) rfl d_X_pickCandidates_16 ?_
        refine lv_iload_n hx hb d_X_pickCandidates_19 rfl (lv_at hl 0 rfl) ?_
        refine x_ci (x_runV (na := 1) (k := 1) (As := [.int (nI d)]) (rest := []) (ci := 4) ⟨hx, hb, hml, hown, ht⟩ (m_Sh_holds (u := w) (nI d) _) w_188 w_189 w_190 w_2 w_191 (by decide +kernel) ⟨rfl, rfl, by decide, by decide⟩ hw (by decide) o_Sh rfl rfl hl.1 rfl (Nat.le_of_ble_eq_true rfl) d_X_pickCandidates_20 ⟨Nat.zero_le _, Nat.zero_le _⟩) hw hA (fun v20 u20 H locs hp hw => ?_)
        obtain ⟨hv9, hu⟩ := hp
        subst hv9
        have hu := hu.symm
        subst hu
        refine lv_if_eq (tgt := 87) hx hb d_X_pickCandidates_23 (by decide) (fun c23 => ?_) (fun c23 => ?_)
        · refine lv_iinc (v := (nI (d + 1))) (lv' := [(2, .int (nI (d + 1))), (0, .ref (ad 0)), (1, .int (nI q))]) hx hb d_X_pickCandidates_87 hl (k := 0) rfl (nI_1 _) (by decide) rfl (fun ls hl => ?_)
          refine lv_goto (tgt := 9) hx hb d_X_pickCandidates_90 (by decide) ?_
          exact ih9 (d + 1) (pcS w q d) (by omega) (by rw [← hv]; rfl) (by omega) _ _ (by rw [show pcS w q d = w from by unfold pcS; first | (rw [if_pos c23]; done) | (rw [if_neg c23, if_pos c50]; done) | (rw [if_neg c23, if_neg c50, hn8, nI_clamp (by omega)]; done)]; exact hw) ls (lv_sub hl [0, 1, 2] rfl)
        · refine lv_aload_n hx hb d_X_pickCandidates_26 rfl (lv_at hl 1 rfl) ?_
          refine x_get (ci := 6) (k := 0) hx hb ht in_X hown hw (by decide) o_X rfl 0 (by decide) (ht _ w_144) rfl d_X_pickCandidates_27 ?_
          refine lv_iload_n hx hb d_X_pickCandidates_30 rfl (lv_at hl 0 rfl) ?_
          refine lv_aload_n hx hb d_X_pickCandidates_31 rfl (lv_at hl 1 rfl) ?_
          refine x_get (ci := 6) (k := 0) hx hb ht in_X hown hw (by decide) o_X rfl 1 (by decide) (ht _ w_145) rfl d_X_pickCandidates_32 ?_
          refine lv_iload_n hx hb d_X_pickCandidates_35 rfl (lv_at hl 2 rfl) ?_
          refine x_iald (k := 2) hx hb hw (by decide) rfl (vin (N := 8) (by omega) rfl (by omega)) d_X_pickCandidates_36 ?_
          rw [nI_clamp (n := q) (by omega)]
          refine lv_aload_n hx hb d_X_pickCandidates_37 rfl (lv_at hl 1 rfl) ?_
          refine x_get (ci := 6) (k := 0) hx hb ht in_X hown hw (by decide) o_X rfl 7 (by decide) (ht _ w_151) rfl d_X_pickCandidates_38 ?_
          refine x_cv (x_runV (na := 3) (k := 1) (As := [.int (nI d), .int (w.1 2 q), .ref (ad 8)]) (rest := []) (ci := 4) ⟨hx, hb, hml, hown, ht⟩ (m_Sh_measure (u := w) d (w.1 2 q) (by omega) (fun t ht9 => by rw [hkc _ (by omega) (by omega)]; exact hnn d (by omega) t ht9) _) w_252 w_253 w_254 w_2 w_255 (by decide +kernel) ⟨rfl, rfl, by decide, by decide⟩ hw (by decide) o_Sh rfl rfl hl.1 rfl (Nat.le_of_ble_eq_true rfl) d_X_pickCandidates_41 ⟨Nat.zero_le _, Nat.zero_le _⟩) hw hA (fun u41 H locs hp hw => ?_)
          have hu := hp.symm
          subst hu
          refine lv_aload_n hx hb d_X_pickCandidates_44 rfl (lv_at hl 1 rfl) ?_
          refine x_get (ci := 6) (k := 0) hx hb ht in_X hown hw (by decide) o_X rfl 7 (by decide) (ht _ w_151) rfl d_X_pickCandidates_45 ?_
          refine lv_iconst (v := 0) hx hb d_X_pickCandidates_48 (by decide) ?_
          refine x_iald (k := 8) hx hb hw (by decide) rfl (vin (n := 0) (N := 5) (by omega) rfl (by omega)) d_X_pickCandidates_49 ?_
          rw [show Int32.toNatClampNeg 0 = 0 from rfl]
          refine lv_if_le (tgt := 87) hx hb d_X_pickCandidates_50 (by decide) (fun c50 => ?_) (fun c50 => ?_)
          · refine lv_iinc (v := (nI (d + 1))) (lv' := [(2, .int (nI (d + 1))), (0, .ref (ad 0)), (1, .int (nI q))]) hx hb d_X_pickCandidates_87 hl (k := 0) rfl (nI_1 _) (by decide) rfl (fun ls hl => ?_)
            refine lv_goto (tgt := 9) hx hb d_X_pickCandidates_90 (by decide) ?_
            exact ih9 (d + 1) (pcS w q d) (by omega) (by rw [← hv]; rfl) (by omega) _ _ (by rw [show pcS w q d = (measF w d (w.1 2 q)) from by unfold pcS; first | (rw [if_pos c23]; done) | (rw [if_neg c23, if_pos c50]; done) | (rw [if_neg c23, if_neg c50, hn8, nI_clamp (by omega)]; done)]; exact hw) ls (lv_sub hl [0, 1, 2] rfl)
          · refine lv_aload_n hx hb d_X_pickCandidates_53 rfl (lv_at hl 1 rfl) ?_
            refine x_get (ci := 6) (k := 0) hx hb ht in_X hown hw (by decide) o_X rfl 5 (by decide) (ht _ w_149) rfl d_X_pickCandidates_54 ?_
            refine lv_iload_n hx hb d_X_pickCandidates_57 rfl (lv_at hl 0 rfl) ?_
            refine lv_bipush (v := 16) hx hb d_X_pickCandidates_58 (by decide) ?_
            refine lv_aload_n hx hb d_X_pickCandidates_60 rfl (lv_at hl 1 rfl) ?_
            refine x_get (ci := 6) (k := 0) hx hb ht in_X hown hw (by decide) o_X rfl 7 (by decide) (ht _ w_151) rfl d_X_pickCandidates_61 ?_
            refine lv_iconst (v := 1) hx hb d_X_pickCandidates_64 (by decide) ?_
            refine x_iald (k := 8) hx hb hw (by decide) rfl (vin (n := 1) (N := 5) (by omega) rfl (by omega)) d_X_pickCandidates_65 ?_
            rw [show Int32.toNatClampNeg 1 = 1 from rfl]
            refine lv_imul hx hb d_X_pickCandidates_66 ?_
            refine lv_iconst (v := 4) hx hb d_X_pickCandidates_67 (by decide) ?_
            refine lv_aload_n hx hb d_X_pickCandidates_68 rfl (lv_at hl 1 rfl) ?_
            refine x_get (ci := 6) (k := 0) hx hb ht in_X hown hw (by decide) o_X rfl 7 (by decide) (ht _ w_151) rfl d_X_pickCandidates_69 ?_
            refine lv_iconst (v := 0) hx hb d_X_pickCandidates_72 (by decide) ?_
            refine x_iald (k := 8) hx hb hw (by decide) rfl (vin (n := 0) (N := 5) (by omega) rfl (by omega)) d_X_pickCandidates_73 ?_
            rw [show Int32.toNatClampNeg 0 = 0 from rfl]
            refine lv_imul hx hb d_X_pickCandidates_74 ?_
            refine lv_iadd hx hb d_X_pickCandidates_75 ?_
            refine lv_aload_n hx hb d_X_pickCandidates_76 rfl (lv_at hl 1 rfl) ?_
            refine x_get (ci := 6) (k := 0) hx hb ht in_X hown hw (by decide) o_X rfl 7 (by decide) (ht _ w_151) rfl d_X_pickCandidates_77 ?_
            refine lv_iconst (v := 2) hx hb d_X_pickCandidates_80 (by decide) ?_
            refine x_iald (k := 8) hx hb hw (by decide) rfl (vin (n := 2) (N := 5) (by omega) rfl (by omega)) d_X_pickCandidates_81 ?_
            rw [show Int32.toNatClampNeg 2 = 2 from rfl]
            refine lv_isub hx hb d_X_pickCandidates_82 ?_
            refine lv_i2l (v := (((16 * ((measF w d (w.1 2 q)).1 8 1)) + (4 * ((measF w d (w.1 2 q)).1 8 0))) - ((measF w d (w.1 2 q)).1 8 2)).toInt64) hx hb d_X_pickCandidates_83 rfl ?_
            refine x_cv (x_runV (na := 2) (k := 6) (As := [.int (nI d), .long (((16 * ((measF w d (w.1 2 q)).1 8 1)) + (4 * ((measF w d (w.1 2 q)).1 8 0))) - ((measF w d (w.1 2 q)).1 8 2)).toInt64]) (rest := []) (ci := 3) ⟨hx, hb, hml, hown, ht⟩ (m_Ra_insert (u := (measF w d (w.1 2 q))) 6 n (nI d) ((((16 * ((measF w d (w.1 2 q)).1 8 1)) + (4 * ((measF w d (w.1 2 q)).1 8 0))) - ((measF w d (w.1 2 q)).1 8 2)).toInt64) (Or.inl rfl) (by omega) hn8 _) w_372 w_373 w_374 w_8 w_375 (by decide +kernel) ⟨rfl, rfl, by decide, by decide⟩ hw (by omega) (o_Ra (Or.inl rfl)) rfl rfl hl.1 rfl (Nat.le_of_ble_eq_true rfl) d_X_pickCandidates_84 ⟨Nat.zero_le _, Nat.zero_le _⟩) hw hA (fun u84 H locs hp hw => ?_)
            have hu : u84 = insF (measF w d (w.1 2 q)) 6 (nI d) ((((16 * ((measF w d (w.1 2 q)).1 8 1)) + (4 * ((measF w d (w.1 2 q)).1 8 0))) - ((measF w d (w.1 2 q)).1 8 2)).toInt64) n := hp
            subst hu
            refine lv_iinc (v := (nI (d + 1))) (lv' := [(2, .int (nI (d + 1))), (0, .ref (ad 0)), (1, .int (nI q))]) hx hb d_X_pickCandidates_87 hl (k := 0) rfl (nI_1 _) (by decide) rfl (fun ls hl => ?_)
            refine lv_goto (tgt := 9) hx hb d_X_pickCandidates_90 (by decide) ?_
            exact ih9 (d + 1) (pcS w q d) (by omega) (by rw [← hv]; rfl) (by omega) _ _ (by rw [show pcS w q d = (insF (measF w d (w.1 2 q)) 6 (nI d) ((((16 * ((measF w d (w.1 2 q)).1 8 1)) + (4 * ((measF w d (w.1 2 q)).1 8 0))) - ((measF w d (w.1 2 q)).1 8 2)).toInt64) n) from by unfold pcS; first | (rw [if_pos c23]; done) | (rw [if_neg c23, if_pos c50]; done) | (rw [if_neg c23, if_neg c50, hn8, nI_clamp (by omega)]; done)]; exact hw) ls (lv_sub hl [0, 1, 2] rfl)
  exact L9 ((16 - 0) + 1) (0) ((sF u 8 0)) (by omega) (rfl) (by omega) _ _ hw ls (lv_sub hl [0, 1, 2] rfl))
set_option maxHeartbeats 4000000 in
set_option maxRecDepth 100000 in
theorem m_X_rankAnew {l : Launch} {D : va_G} {g : Ids} {ad : Nat → Nat} {u : St} (q : Nat) (n : Nat) (hq : q < 8) (hnn : ∀ d, d < 16 → ∀ t, t < 12 → 0 ≤ u.1 (22 + d) t) (hn4 : n ≤ 4) (hs : u.2.2.1 2 = nI n) (hT : ∀ t, t < n → ∀ j, j < 7 → u.1 (63 + t) j < 5) (hd0 : 0 ≤ u.2.2.1 0) : XMr l D g ad y_X_rankAnew b_X_rankAnew 4 ((some (.object "LearnedRanker$Ranking"))) (rmN 4 91) [.ref (ad 0), .int (nI q)] u (fun r => r = (rankF u q n, 7)) := fun sz => x_met (by decide) (Nat.le_of_ble_eq_true rfl) (fun p e s m below meth c hsz hx hb hr hml hown ht hlk hw ls hl => by
  have hA : ∀ q, s.heap.size ≤ q → AX ad sz q := fun q h => Or.inr (hsz ▸ h)
  have hl : lv_has ls 4 [(0, .ref (ad 0)), (1, .int (nI q))] := hl
  refine lv_aload_n hx hb d_X_rankAnew_0 rfl (lv_at hl 0 rfl) ?_
  refine lv_iload_n hx hb d_X_rankAnew_1 rfl (lv_at hl 1 rfl) ?_
  refine x_cr (x_runV (na := 1) (k := 0) (As := [.int (nI q)]) (rest := []) (ci := 6) ⟨hx, hb, hml, hown, ht⟩ (m_X_pickCandidates q hq hnn _) w_364 w_366 s_10 w_1 w_367 (by decide +kernel) ⟨rfl, rfl, by decide, by decide⟩ hw (by decide) o_X rfl rfl hl.1 rfl (Nat.le_of_ble_eq_true rfl) d_X_rankAnew_2 ⟨Nat.zero_le _, Nat.zero_le _⟩) hw hA (fun u2 k2 H locs hp hw => ?_)
  obtain ⟨hu2, hkk⟩ := Prod.mk.inj hp
  subst hkk
  refine lv_pop hx hb d_X_rankAnew_5 rfl ?_
  obtain ⟨⟨a, ha16, ha8, haj⟩, hac, hal, haf, -⟩ : OKC u u2 16 := hu2 ▸ pickF_ok u q hd0
  refine lv_aload_n hx hb d_X_rankAnew_6 rfl (lv_at hl 0 rfl) ?_
  refine x_get (ci := 6) (k := 0) hx hb ht in_X hown hw (by decide) o_X rfl 6 (by decide) (ht _ w_150) rfl d_X_rankAnew_7 ?_
  refine x_cv (x_runV (na := 0) (k := 7) (As := []) (rest := []) (ci := 3) ⟨hx, hb, hml, hown, ht⟩ (m_Ra_clear 7 (Or.inr rfl) _) w_368 w_369 w_370 w_8 w_371 (by decide +kernel) ⟨rfl, rfl, by decide, by decide⟩ hw (by omega) (o_Ra (Or.inr rfl)) rfl rfl hl.1 rfl (Nat.le_of_ble_eq_true rfl) d_X_rankAnew_10 ⟨Nat.zero_le _, Nat.zero_le _⟩) hw hA (fun u10 H locs hp hw => ?_)
  have hu : u10 = sF u2 9 0 := hp
  subst hu
  refine lv_iconst (v := 0) hx hb d_X_rankAnew_13 (by decide) ?_
  refine lv_istore_n (lv' := [(2, .int 0), (0, .ref (ad 0)), (1, .int (nI q))]) hx hb d_X_rankAnew_14 rfl hl (by decide) rfl (fun ls hl => ?_)
  have L15 : ∀ (n15 : Nat) (i : Nat) (w : St), i ≤ a → raF u2 q n i = w → a - i < n15 → ∀ (H : Heap) (locs : List Loc), XH D g ad (AX ad sz) s s.heap H locs w → ∀ ls : Array Slot, lv_has ls 4 [(2, .int (nI i)), (0, .ref (ad 0)), (1, .int (nI q))] → W p l e (rmN 4 91) s m ([.ref (ad 0), .int (nI q)] : List Value).toArray below meth c H locs 0 0 (MQ below (va_Qr (fun r => r = (rankF u q n, 7)) (XBr D g ad sz) (AX ad sz)) ([.ref (ad 0), .int (nI q)] : List Value).toArray s 0 0 (AX ad sz)) (F0 m 15 ls []) := by
    intro n15
    induction n15 with
    | zero => intro i w hi hv hz; exact absurd hz (by omega)
    | succ n15 ih15 =>
      intro i w hi hv hnL15 H locs hw ls hl
      refine lv_iload_n hx hb d_X_rankAnew_15 rfl (lv_at hl 0 rfl) ?_
      refine lv_aload_n hx hb d_X_rankAnew_16 rfl (lv_at hl 1 rfl) ?_
      refine x_get (ci := 6) (k := 0) hx hb ht in_X hown hw (by decide) o_X rfl 5 (by decide) (ht _ w_149) rfl d_X_rankAnew_17 ?_
      refine x_ci (x_runV (na := 0) (k := 6) (As := []) (rest := [.int (nI i)]) (ci := 3) ⟨hx, hb, hml, hown, ht⟩ (m_Ra_length (u := w) 6 (Or.inl rfl) _) w_381 w_382 w_383 w_8 w_384 (by decide +kernel) ⟨rfl, rfl, by decide, by decide⟩ hw (by omega) (o_Ra (Or.inl rfl)) rfl rfl hl.1 rfl (Nat.le_of_ble_eq_true rfl) d_X_rankAnew_20 ⟨Nat.zero_le _, Nat.zero_le _⟩) hw hA (fun v20 u20 H locs hp hw => ?_)
      obtain ⟨hv9, hu⟩ := hp
      rw [hv9]
      have hu := hu.symm
      subst hu
      rw [show (w.2.2.1 (6 + 2)) = (nI a) from by show w.2.2.1 8 = nI a; rw [(show OKR u2 w i from hv ▸ raF_ok u2 q n a ha16 haj i hi).2.2.2.1 8 (by decide)]; exact ha8]
      refine lv_icmp_ge (tgt := 55) hx hb d_X_rankAnew_23 (by decide) (fun c23 => ?_) (fun c23 => ?_)
      · have h23 : (a) ≤ (i) := (nI_leI (a := a) (b := i) (by omega) (by omega)).mp c23
        refine lv_aload_n hx hb d_X_rankAnew_55 rfl (lv_at hl 1 rfl) ?_
        refine x_get (ci := 6) (k := 0) hx hb ht in_X hown hw (by decide) o_X rfl 6 (by decide) (ht _ w_150) rfl d_X_rankAnew_56 ?_
        exact x_aret hsz hx hb hr (Or.inl ⟨_, rfl⟩) hlk hw (by unfold rankF; rw [← hu2, ha8, nI_clamp (by omega), ← show i = a by omega, hv]) d_X_rankAnew_59
      · have h23 : ¬ (a) ≤ (i) := fun hz9 => c23 ((nI_leI (a := a) (b := i) (by omega) (by omega)).mpr hz9)
        obtain ⟨⟨b, hbi, hb9, -⟩, hbc, hbl, hbf, -⟩ : OKR u2 w i := hv ▸ raF_ok u2 q n a ha16 haj i (by omega)
        obtain ⟨j, hj16, hij⟩ := haj i (by omega)
        have hwj : w.1 18 i = nI j := by rw [hbc 18 (by decide) (by decide)]; exact hij
        refine lv_aload_n hx hb d_X_rankAnew_26 rfl (lv_at hl 1 rfl) ?_
        refine x_get (ci := 6) (k := 0) hx hb ht in_X hown hw (by decide) o_X rfl 5 (by decide) (ht _ w_149) rfl d_X_rankAnew_27 ?_
        refine lv_iload_n hx hb d_X_rankAnew_30 rfl (lv_at hl 0 rfl) ?_
        refine x_ci (x_runV (na := 1) (k := 6) (As := [.int (nI i)]) (rest := []) (ci := 3) ⟨hx, hb, hml, hown, ht⟩ (m_Ra_documentAt (u := w) 6 i (Or.inl rfl) (by omega) _) w_385 w_386 w_387 w_8 w_388 (by decide +kernel) ⟨rfl, rfl, by decide, by decide⟩ hw (by omega) (o_Ra (Or.inl rfl)) rfl rfl hl.1 rfl (Nat.le_of_ble_eq_true rfl) d_X_rankAnew_31 ⟨Nat.zero_le _, Nat.zero_le _⟩) hw hA (fun v31 u31 H locs hp hw => ?_)
        obtain ⟨hv9, hu⟩ := hp
        rw [hv9]
        have hu := hu.symm
        subst hu
        rw [show (w.1 (2 * 6 + 6) i) = (nI j) from hwj]
        refine lv_istore_n (lv' := [(3, .int (nI j)), (2, .int (nI i)), (0, .ref (ad 0)), (1, .int (nI q))]) hx hb d_X_rankAnew_34 rfl hl (by decide) rfl (fun ls hl => ?_)
        refine lv_aload_n hx hb d_X_rankAnew_35 rfl (lv_at hl 2 rfl) ?_
        refine x_get (ci := 6) (k := 0) hx hb ht in_X hown hw (by decide) o_X rfl 6 (by decide) (ht _ w_150) rfl d_X_rankAnew_36 ?_
        refine lv_iload_n hx hb d_X_rankAnew_39 rfl (lv_at hl 0 rfl) ?_
        refine lv_aload_n hx hb d_X_rankAnew_40 rfl (lv_at hl 2 rfl) ?_
        refine lv_iload_n hx hb d_X_rankAnew_41 rfl (lv_at hl 3 rfl) ?_
        refine lv_iload_n hx hb d_X_rankAnew_42 rfl (lv_at hl 0 rfl) ?_
        refine x_cl (x_runV (na := 2) (k := 0) (As := [.int (nI q), .int (nI j)]) (rest := [.int (nI j), .ref (ad 7)]) (ci := 6) ⟨hx, hb, hml, hown, ht⟩ (m_X_scoreNow (u := w) q j n hq hj16 (fun t ht9 => by rw [hbc _ (by omega) (by omega), hac _ (by omega) (by omega)]; exact hnn j hj16 t ht9) hn4 (by rw [hbf 2 (by decide), haf 2 (by decide)]; exact hs) (fun t ht9 j hj => by rw [hbc _ (by omega) (by omega), hac _ (by omega) (by omega)]; exact hT t ht9 j hj) _) w_389 w_391 s_11 w_1 w_392 (by decide +kernel) ⟨rfl, rfl, by decide, by decide⟩ hw (by decide) o_X rfl rfl hl.1 rfl (Nat.le_of_ble_eq_true rfl) d_X_rankAnew_43 ⟨Nat.zero_le _, Nat.zero_le _⟩) hw hA (fun v43 u43 H locs hp hw => ?_)
        obtain ⟨hv9, hu⟩ := hp
        rw [hv9]
        have hu := hu.symm
        subst hu
        refine x_cv (x_runV (na := 2) (k := 7) (As := [.int (nI j), .long (scoreF (measF w j (w.1 2 q)) 8 n)]) (rest := []) (ci := 3) ⟨hx, hb, hml, hown, ht⟩ (m_Ra_insert (u := (measF w j (w.1 2 q))) 7 b (nI j) (scoreF (measF w j (w.1 2 q)) 8 n) (Or.inr rfl) (by omega) hb9 _) w_372 w_373 w_374 w_8 w_375 (by decide +kernel) ⟨rfl, rfl, by decide, by decide⟩ hw (by omega) (o_Ra (Or.inr rfl)) rfl rfl hl.1 rfl (Nat.le_of_ble_eq_true rfl) d_X_rankAnew_46 ⟨Nat.zero_le _, Nat.zero_le _⟩) hw hA (fun u46 H locs hp hw => ?_)
        have hu : u46 = insF (measF w j (w.1 2 q)) 7 (nI j) (scoreF (measF w j (w.1 2 q)) 8 n) b := hp
        subst hu
        refine lv_iinc (v := (nI (i + 1))) (lv' := [(2, .int (nI (i + 1))), (3, .int (nI j)), (0, .ref (ad 0)), (1, .int (nI q))]) hx hb d_X_rankAnew_49 hl (k := 1) rfl (nI_1 _) (by decide) rfl (fun ls hl => ?_)
        refine lv_goto (tgt := 15) hx hb d_X_rankAnew_52 (by decide) ?_
        exact ih15 (i + 1) (raS w q n i) (by omega) (by rw [← hv]; rfl) (by omega) _ _ (by rw [show raS w q n i = (insF (measF w j (w.1 2 q)) 7 (nI j) (scoreF (measF w j (w.1 2 q)) 8 n) b) from by unfold raS; rw [hwj, nI_clamp (by omega), hb9, nI_clamp (by omega)]]; exact hw) ls (lv_sub hl [0, 2, 3] rfl)
  exact L15 ((a - 0) + 1) (0) ((sF u2 9 0)) (by omega) (rfl) (by omega) _ _ hw ls (lv_sub hl [0, 1, 2] rfl))
