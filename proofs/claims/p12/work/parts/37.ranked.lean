theorem within_ix9 {x : Int32} {n : Nat} (hn9 : n ≤ 16) (h : ¬ withinF x (nI n - 1) = 0) : ∃ j : Nat, j < n ∧ x = nI j := by
  unfold withinF at h
  split at h
  · exact absurd rfl h
  · rename_i h1
    split at h
    · exact absurd rfl h
    · rename_i h2
      obtain ⟨j, hj, rfl⟩ := nI_of h1
      refine ⟨j, ?_, rfl⟩
      rcases Nat.lt_or_ge j n with q | q
      · exact q
      · have hn0 : n < 2 ^ 31 := by omega
        exact absurd (show nI n - 1 < nI j from by
          rw [Int32.lt_iff_toInt_lt]
          have e := pk_sub_toInt (a := n) (b := 1) (by omega) (by omega)
          rw [show (nI n - 1) = nI n - nI 1 from rfl, e, nI_toInt hj]
          omega) h2
theorem pickF_len (u : St) (q : Nat) (h0 : 0 ≤ u.2.2.1 0) : ∃ b : Nat, b ≤ 16 ∧ (pickF u q).2.2.1 (6 + 2) = nI b ∧ ∀ j, j < b → ixD ((pickF u q).1 (2 * 6 + 6) j) := by
  have h := (pickF_ok u q h0).1
  generalize pickF u q = w at h ⊢
  exact h
theorem rankF_ok (u : St) (q n : Nat) (h0 : 0 ≤ u.2.2.1 0) : OKR (pickF u q) (rankF u q n) 16 := by
  obtain ⟨a, ha16, ha8, haj⟩ := (pickF_ok u q h0).1
  unfold rankF
  rw [ha8, nI_clamp (by omega)]
  obtain ⟨⟨b, hb, h9, hj⟩, h1⟩ := raF_ok (pickF u q) q n a ha16 haj a (Nat.le_refl a)
  exact ⟨⟨b, by omega, h9, hj⟩, h1⟩
theorem rankF_len (u : St) (q n : Nat) (h0 : 0 ≤ u.2.2.1 0) : ∃ b : Nat, b ≤ 16 ∧ (rankF u q n).2.2.1 (7 + 2) = nI b ∧ ∀ j, j < b → ixD ((rankF u q n).1 (2 * 7 + 6) j) := by
  have h := (rankF_ok u q n h0).1
  generalize rankF u q n = w at h ⊢
  exact h
def rnkA (w : St) (k : Nat) (i : Int32) : Int32 × St := if withinF i (w.2.2.1 (k + 2) - 1) = 0 then (-1, w) else (w.1 (2 * k + 6) i.toNatClampNeg, w)
def rnkX (u : St) (q i z : Int32) (n : Nat) : Int32 × St := if withinF q 7 = 0 then (-1, u) else if z = 0 then rnkA (pickF u q.toNatClampNeg) 6 i else rnkA (rankF u q.toNatClampNeg n) 7 i
def merF (w : St) (k q : Nat) : Nat → Int64
  | 0 => 0
  | i + 1 => if w.1 12 (q * 16 + (w.1 (2 * k + 6) i).toNatClampNeg) = -1 then merF w k q i else merF w k q i + (((1 : Int64) <<< ((w.1 12 (q * 16 + (w.1 (2 * k + 6) i).toNatClampNeg)).toInt64 &&& 63)) - 1) * ((65536 : Int32) >>> (nI i &&& 31)).toInt64
def merA (w : St) (k q : Nat) : Int64 × St := (merF w k q (w.2.2.1 (k + 2)).toNatClampNeg, w)
def merX (u : St) (q z : Int32) (n : Nat) : Int64 × St := if withinF q 7 = 0 then (-1000000000000000, u) else if z = 0 then merA (pickF u q.toNatClampNeg) 6 q.toNatClampNeg else merA (rankF u q.toNatClampNeg n) 7 q.toNatClampNeg
set_option maxHeartbeats 4000000 in
set_option maxRecDepth 100000 in
theorem m_X_ranked {l : Launch} {D : va_G} {g : Ids} {ad : Nat → Nat} {u : St} (q : Int32) (i : Int32) (z : Int32) (n : Nat) (hnn : ∀ d, d < 16 → ∀ t, t < 12 → 0 ≤ u.1 (22 + d) t) (hn4 : n ≤ 4) (hs : u.2.2.1 2 = nI n) (hT : ∀ t, t < n → ∀ j, j < 7 → u.1 (63 + t) j < 5) (hd0 : 0 ≤ u.2.2.1 0) : XMi l D g ad y_X_ranked b_X_ranked 5 ((some .int)) (rmN 5 114) [.ref (ad 0), .int q, .int i, .int z] u (fun v r => (v, r) = rnkX u q i z n) := fun sz => x_met (by decide) (Nat.le_of_ble_eq_true rfl) (fun p e s m below meth c hsz hx hb hr hml hown ht hlk hw ls hl => by
  have hA : ∀ q, s.heap.size ≤ q → AX ad sz q := fun q h => Or.inr (hsz ▸ h)
  have hl : lv_has ls 5 [(0, .ref (ad 0)), (1, .int q), (2, .int i), (3, .int z)] := hl
  refine lv_iload_n hx hb d_X_ranked_0 rfl (lv_at hl 1 rfl) ?_
  refine x_ci (x_runS (na := 1) (As := [.int q]) (rest := []) ⟨hx, hb, hml, hown, ht⟩ (m_X_isQuery q _) w_209 w_210 w_1 w_211 (by decide +kernel) ⟨rfl, rfl, by decide, by decide⟩ hw rfl hl.1 rfl (Nat.le_of_ble_eq_true rfl) d_X_ranked_1 ⟨Nat.zero_le _, Nat.zero_le _⟩) hw hA (fun v1 u1 H locs hp hw => ?_)
  obtain ⟨hv9, hu⟩ := hp
  subst hv9
  have hu := hu.symm
  subst hu
  refine lv_if_ne (tgt := 9) hx hb d_X_ranked_4 (by decide) (fun c4 => ?_) (fun c4 => ?_)
  · obtain ⟨a, ha8, rfl⟩ : ∃ j : Nat, j < 8 ∧ q = nI j := vp_in_of (within_in (N := 8) c4) (by decide)
    refine lv_iload_n hx hb d_X_ranked_9 rfl (lv_at hl 3 rfl) ?_
    refine lv_if_eq (tgt := 21) hx hb d_X_ranked_10 (by decide) (fun c10 => ?_) (fun c10 => ?_)
    · refine lv_aload_n hx hb d_X_ranked_21 rfl (lv_at hl 0 rfl) ?_
      refine lv_iload_n hx hb d_X_ranked_22 rfl (lv_at hl 1 rfl) ?_
      refine x_cr (x_runV (na := 1) (k := 0) (As := [.int (nI a)]) (rest := []) (ci := 6) ⟨hx, hb, hml, hown, ht⟩ (m_X_pickCandidates a ha8 hnn _) w_364 w_366 s_10 w_1 w_367 (by decide +kernel) ⟨rfl, rfl, by decide, by decide⟩ hw (by decide) o_X rfl rfl hl.1 rfl (Nat.le_of_ble_eq_true rfl) d_X_ranked_23 ⟨Nat.zero_le _, Nat.zero_le _⟩) hw hA (fun u23 k23 H locs hp hw => ?_)
      obtain ⟨hu23, hkk⟩ := Prod.mk.inj hp
      subst hkk
      refine lv_astore (lv' := [(4, .ref (ad 6)), (0, .ref (ad 0)), (1, .int (nI a)), (2, .int i), (3, .int z)]) hx hb d_X_ranked_26 hl (by decide) rfl (fun ls hl => ?_)
      obtain ⟨b, hb16, hb9, hbj⟩ : ∃ b : Nat, b ≤ 16 ∧ u23.2.2.1 (6 + 2) = nI b ∧ ∀ j, j < b → ixD (u23.1 (2 * 6 + 6) j) := hu23 ▸ pickF_len u a hd0
      refine lv_iload_n hx hb d_X_ranked_28 rfl (lv_at hl 3 rfl) ?_
      refine lv_aload hx hb d_X_ranked_29 (lv_at hl 0 rfl) ?_
      refine x_ci (x_runV (na := 0) (k := 6) (As := []) (rest := [.int i]) (ci := 3) ⟨hx, hb, hml, hown, ht⟩ (m_Ra_length (u := u23) 6 (Or.inl rfl) _) w_381 w_382 w_383 w_8 w_384 (by decide +kernel) ⟨rfl, rfl, by decide, by decide⟩ hw (by omega) (o_Ra (Or.inl rfl)) rfl rfl hl.1 rfl (Nat.le_of_ble_eq_true rfl) d_X_ranked_31 ⟨Nat.zero_le _, Nat.zero_le _⟩) hw hA (fun v31 u31 H locs hp hw => ?_)
      obtain ⟨hv9, hu⟩ := hp
      rw [hv9]
      have hu := hu.symm
      subst hu
      rw [show (u23.2.2.1 (6 + 2)) = (nI b) from hb9]
      refine lv_iconst (v := 1) hx hb d_X_ranked_34 (by decide) ?_
      refine lv_isub hx hb d_X_ranked_35 ?_
      refine x_ci (x_runS (na := 2) (As := [.int i, .int ((nI b) - 1)]) (rest := []) ⟨hx, hb, hml, hown, ht⟩ (m_X_within i ((nI b) - 1) _) w_176 w_177 w_1 w_178 (by decide +kernel) ⟨rfl, rfl, by decide, by decide⟩ hw rfl hl.1 rfl (Nat.le_of_ble_eq_true rfl) d_X_ranked_36 ⟨Nat.zero_le _, Nat.zero_le _⟩) hw hA (fun v36 u36 H locs hp hw => ?_)
      obtain ⟨hv9, hu⟩ := hp
      subst hv9
      have hu := hu.symm
      subst hu
      refine lv_if_eq (tgt := 51) hx hb d_X_ranked_39 (by decide) (fun c39 => ?_) (fun c39 => ?_)
      · refine lv_iconst (v := (-1)) hx hb d_X_ranked_51 (by decide) ?_
        exact x_iret hsz hx hb hr hlk hw (by have e := nI_clamp (n := a) (by omega); unfold rnkX; rw [if_neg c4, e]; rw [if_pos c10, ← hu23]; unfold rnkA; rw [hb9]; rw [if_pos c39]) d_X_ranked_52
      · obtain ⟨j, hj, rfl⟩ : ∃ j : Nat, j < b ∧ i = nI j := within_ix9 hb16 c39
        refine lv_aload hx hb d_X_ranked_42 (lv_at hl 0 rfl) ?_
        refine lv_iload_n hx hb d_X_ranked_44 rfl (lv_at hl 3 rfl) ?_
        refine x_ci (x_runV (na := 1) (k := 6) (As := [.int (nI j)]) (rest := []) (ci := 3) ⟨hx, hb, hml, hown, ht⟩ (m_Ra_documentAt (u := u23) 6 j (Or.inl rfl) (by omega) _) w_385 w_386 w_387 w_8 w_388 (by decide +kernel) ⟨rfl, rfl, by decide, by decide⟩ hw (by omega) (o_Ra (Or.inl rfl)) rfl rfl hl.1 rfl (Nat.le_of_ble_eq_true rfl) d_X_ranked_45 ⟨Nat.zero_le _, Nat.zero_le _⟩) hw hA (fun v45 u45 H locs hp hw => ?_)
        obtain ⟨hv9, hu⟩ := hp
        rw [hv9]
        have hu := hu.symm
        subst hu
        refine lv_goto (tgt := 52) hx hb d_X_ranked_48 (by decide) ?_
        exact x_iret hsz hx hb hr hlk hw (by have e := nI_clamp (n := a) (by omega); unfold rnkX; rw [if_neg c4, e]; rw [if_pos c10, ← hu23]; unfold rnkA; rw [hb9]; rw [if_neg c39, nI_clamp (by omega)]) d_X_ranked_52
    · refine lv_aload_n hx hb d_X_ranked_13 rfl (lv_at hl 0 rfl) ?_
      refine lv_iload_n hx hb d_X_ranked_14 rfl (lv_at hl 1 rfl) ?_
      refine x_cr (x_runV (na := 1) (k := 0) (As := [.int (nI a)]) (rest := []) (ci := 6) ⟨hx, hb, hml, hown, ht⟩ (m_X_rankAnew a n ha8 hnn hn4 hs hT hd0 _) w_360 w_362 s_9 w_1 w_363 (by decide +kernel) ⟨rfl, rfl, by decide, by decide⟩ hw (by decide) o_X rfl rfl hl.1 rfl (Nat.le_of_ble_eq_true rfl) d_X_ranked_15 ⟨Nat.zero_le _, Nat.zero_le _⟩) hw hA (fun u15 k15 H locs hp hw => ?_)
      obtain ⟨hu15, hkk⟩ := Prod.mk.inj hp
      subst hkk
      refine lv_goto (tgt := 26) hx hb d_X_ranked_18 (by decide) ?_
      refine lv_astore (lv' := [(4, .ref (ad 7)), (0, .ref (ad 0)), (1, .int (nI a)), (2, .int i), (3, .int z)]) hx hb d_X_ranked_26 hl (by decide) rfl (fun ls hl => ?_)
      obtain ⟨b, hb16, hb9, hbj⟩ : ∃ b : Nat, b ≤ 16 ∧ u15.2.2.1 (7 + 2) = nI b ∧ ∀ j, j < b → ixD (u15.1 (2 * 7 + 6) j) := hu15 ▸ rankF_len u a n hd0
      refine lv_iload_n hx hb d_X_ranked_28 rfl (lv_at hl 3 rfl) ?_
      refine lv_aload hx hb d_X_ranked_29 (lv_at hl 0 rfl) ?_
      refine x_ci (x_runV (na := 0) (k := 7) (As := []) (rest := [.int i]) (ci := 3) ⟨hx, hb, hml, hown, ht⟩ (m_Ra_length (u := u15) 7 (Or.inr rfl) _) w_381 w_382 w_383 w_8 w_384 (by decide +kernel) ⟨rfl, rfl, by decide, by decide⟩ hw (by omega) (o_Ra (Or.inr rfl)) rfl rfl hl.1 rfl (Nat.le_of_ble_eq_true rfl) d_X_ranked_31 ⟨Nat.zero_le _, Nat.zero_le _⟩) hw hA (fun v31 u31 H locs hp hw => ?_)
      obtain ⟨hv9, hu⟩ := hp
      rw [hv9]
      have hu := hu.symm
      subst hu
      rw [show (u15.2.2.1 (7 + 2)) = (nI b) from hb9]
      refine lv_iconst (v := 1) hx hb d_X_ranked_34 (by decide) ?_
      refine lv_isub hx hb d_X_ranked_35 ?_
      refine x_ci (x_runS (na := 2) (As := [.int i, .int ((nI b) - 1)]) (rest := []) ⟨hx, hb, hml, hown, ht⟩ (m_X_within i ((nI b) - 1) _) w_176 w_177 w_1 w_178 (by decide +kernel) ⟨rfl, rfl, by decide, by decide⟩ hw rfl hl.1 rfl (Nat.le_of_ble_eq_true rfl) d_X_ranked_36 ⟨Nat.zero_le _, Nat.zero_le _⟩) hw hA (fun v36 u36 H locs hp hw => ?_)
      obtain ⟨hv9, hu⟩ := hp
      subst hv9
      have hu := hu.symm
      subst hu
      refine lv_if_eq (tgt := 51) hx hb d_X_ranked_39 (by decide) (fun c39 => ?_) (fun c39 => ?_)
      · refine lv_iconst (v := (-1)) hx hb d_X_ranked_51 (by decide) ?_
        exact x_iret hsz hx hb hr hlk hw (by have e := nI_clamp (n := a) (by omega); unfold rnkX; rw [if_neg c4, e]; rw [if_neg c10, ← hu15]; unfold rnkA; rw [hb9]; rw [if_pos c39]) d_X_ranked_52
      · obtain ⟨j, hj, rfl⟩ : ∃ j : Nat, j < b ∧ i = nI j := within_ix9 hb16 c39
        refine lv_aload hx hb d_X_ranked_42 (lv_at hl 0 rfl) ?_
        refine lv_iload_n hx hb d_X_ranked_44 rfl (lv_at hl 3 rfl) ?_
        refine x_ci (x_runV (na := 1) (k := 7) (As := [.int (nI j)]) (rest := []) (ci := 3) ⟨hx, hb, hml, hown, ht⟩ (m_Ra_documentAt (u := u15) 7 j (Or.inr rfl) (by omega) _) w_385 w_386 w_387 w_8 w_388 (by decide +kernel) ⟨rfl, rfl, by decide, by decide⟩ hw (by omega) (o_Ra (Or.inr rfl)) rfl rfl hl.1 rfl (Nat.le_of_ble_eq_true rfl) d_X_ranked_45 ⟨Nat.zero_le _, Nat.zero_le _⟩) hw hA (fun v45 u45 H locs hp hw => ?_)
        obtain ⟨hv9, hu⟩ := hp
        rw [hv9]
        have hu := hu.symm
        subst hu
        refine lv_goto (tgt := 52) hx hb d_X_ranked_48 (by decide) ?_
        exact x_iret hsz hx hb hr hlk hw (by have e := nI_clamp (n := a) (by omega); unfold rnkX; rw [if_neg c4, e]; rw [if_neg c10, ← hu15]; unfold rnkA; rw [hb9]; rw [if_neg c39, nI_clamp (by omega)]) d_X_ranked_52
  · refine lv_iconst (v := (-1)) hx hb d_X_ranked_7 (by decide) ?_
    exact x_iret hsz hx hb hr hlk hw (by simp [rnkX, c4]) d_X_ranked_8)
set_option maxHeartbeats 4000000 in
set_option maxRecDepth 100000 in
theorem m_X_merit {l : Launch} {D : va_G} {g : Ids} {ad : Nat → Nat} {u : St} (q : Int32) (z : Int32) (n : Nat) (hnn : ∀ d, d < 16 → ∀ t, t < 12 → 0 ≤ u.1 (22 + d) t) (hn4 : n ≤ 4) (hs : u.2.2.1 2 = nI n) (hT : ∀ t, t < n → ∀ j, j < 7 → u.1 (63 + t) j < 5) (hd0 : 0 ≤ u.2.2.1 0) : XMl l D g ad y_X_merit b_X_merit 8 ((some .long)) (rmN 5 114) [.ref (ad 0), .int q, .int z] u (fun v r => (v, r) = merX u q z n) := fun sz => x_met (by decide) (Nat.le_of_ble_eq_true rfl) (fun p e s m below meth c hsz hx hb hr hml hown ht hlk hw ls hl => by
  have hA : ∀ q, s.heap.size ≤ q → AX ad sz q := fun q h => Or.inr (hsz ▸ h)
  have hl : lv_has ls 8 [(0, .ref (ad 0)), (1, .int q), (2, .int z)] := hl
  refine lv_iload_n hx hb d_X_merit_0 rfl (lv_at hl 1 rfl) ?_
  refine x_ci (x_runS (na := 1) (As := [.int q]) (rest := []) ⟨hx, hb, hml, hown, ht⟩ (m_X_isQuery q _) w_209 w_210 w_1 w_211 (by decide +kernel) ⟨rfl, rfl, by decide, by decide⟩ hw rfl hl.1 rfl (Nat.le_of_ble_eq_true rfl) d_X_merit_1 ⟨Nat.zero_le _, Nat.zero_le _⟩) hw hA (fun v1 u1 H locs hp hw => ?_)
  obtain ⟨hv9, hu⟩ := hp
  subst hv9
  have hu := hu.symm
  subst hu
  refine lv_if_ne (tgt := 11) hx hb d_X_merit_4 (by decide) (fun c4 => ?_) (fun c4 => ?_)
  · obtain ⟨a, ha8, rfl⟩ : ∃ j : Nat, j < 8 ∧ q = nI j := vp_in_of (within_in (N := 8) c4) (by decide)
    refine lv_iload_n hx hb d_X_merit_11 rfl (lv_at hl 2 rfl) ?_
    refine lv_if_eq (tgt := 23) hx hb d_X_merit_12 (by decide) (fun c12 => ?_) (fun c12 => ?_)
    · refine lv_aload_n hx hb d_X_merit_23 rfl (lv_at hl 0 rfl) ?_
      refine lv_iload_n hx hb d_X_merit_24 rfl (lv_at hl 1 rfl) ?_
      refine x_cr (x_runV (na := 1) (k := 0) (As := [.int (nI a)]) (rest := []) (ci := 6) ⟨hx, hb, hml, hown, ht⟩ (m_X_pickCandidates a ha8 hnn _) w_364 w_366 s_10 w_1 w_367 (by decide +kernel) ⟨rfl, rfl, by decide, by decide⟩ hw (by decide) o_X rfl rfl hl.1 rfl (Nat.le_of_ble_eq_true rfl) d_X_merit_25 ⟨Nat.zero_le _, Nat.zero_le _⟩) hw hA (fun u25 k25 H locs hp hw => ?_)
      obtain ⟨hu25, hkk⟩ := Prod.mk.inj hp
      subst hkk
      refine lv_astore_n (lv' := [(3, .ref (ad 6)), (0, .ref (ad 0)), (1, .int (nI a)), (2, .int z)]) hx hb d_X_merit_28 rfl hl (by decide) rfl (fun ls hl => ?_)
      obtain ⟨b, hb16, hb9, hbj⟩ : ∃ b : Nat, b ≤ 16 ∧ u25.2.2.1 (6 + 2) = nI b ∧ ∀ j, j < b → ixD (u25.1 (2 * 6 + 6) j) := hu25 ▸ pickF_len u a hd0
      refine lv_lconst (v := 0) hx hb d_X_merit_29 (by decide) ?_
      refine lv_lstore (lv' := [(4, .long 0), (3, .ref (ad 6)), (0, .ref (ad 0)), (1, .int (nI a)), (2, .int z)]) hx hb d_X_merit_30 hl (by decide) rfl (fun ls hl => ?_)
      refine lv_iconst (v := 0) hx hb d_X_merit_32 (by decide) ?_
      refine lv_istore (lv' := [(6, .int 0), (4, .long 0), (3, .ref (ad 6)), (0, .ref (ad 0)), (1, .int (nI a)), (2, .int z)]) hx hb d_X_merit_33 hl (by decide) rfl (fun ls hl => ?_)
      have L35 : ∀ (n35 : Nat) (i : Nat), i ≤ b → b - i < n35 → ∀ (H : Heap) (locs : List Loc), XH D g ad (AX ad sz) s s.heap H locs u25 → ∀ ls : Array Slot, lv_has ls 8 [(6, .int (nI i)), (4, .long (merF u25 6 a i)), (3, .ref (ad 6)), (0, .ref (ad 0)), (1, .int (nI a)), (2, .int z)] → W p l e (rmN 5 114) s m ([.ref (ad 0), .int (nI a), .int z] : List Value).toArray below meth c H locs 0 0 (MQ below (va_Ql (fun v r => (v, r) = merX u (nI a) z n) (XB D g ad sz) (AX ad sz)) ([.ref (ad 0), .int (nI a), .int z] : List Value).toArray s 0 0 (AX ad sz)) (F0 m 35 ls []) := by
        intro n35
        induction n35 with
        | zero => intro i hi hz; exact absurd hz (by omega)
        | succ n35 ih35 =>
          intro i hi hnL35 H locs hw ls hl
          refine lv_iload hx hb d_X_merit_35 (lv_at hl 0 rfl) ?_
          refine lv_aload_n hx hb d_X_merit_37 rfl (lv_at hl 2 rfl) ?_
          refine x_ci (x_runV (na := 0) (k := 6) (As := []) (rest := [.int (nI i)]) (ci := 3) ⟨hx, hb, hml, hown, ht⟩ (m_Ra_length (u := u25) 6 (Or.inl rfl) _) w_381 w_382 w_383 w_8 w_384 (by decide +kernel) ⟨rfl, rfl, by decide, by decide⟩ hw (by omega) (o_Ra (Or.inl rfl)) rfl rfl hl.1 rfl (Nat.le_of_ble_eq_true rfl) d_X_merit_38 ⟨Nat.zero_le _, Nat.zero_le _⟩) hw hA (fun v38 u38 H locs hp hw => ?_)
          obtain ⟨hv9, hu⟩ := hp
          rw [hv9]
          have hu := hu.symm
          subst hu
          rw [show (u25.2.2.1 (6 + 2)) = (nI b) from hb9]
          refine lv_icmp_ge (tgt := 90) hx hb d_X_merit_41 (by decide) (fun c41 => ?_) (fun c41 => ?_)
          · have h41 : (b) ≤ (i) := (nI_leI (a := b) (b := i) (by omega) (by omega)).mp c41
            refine lv_lload hx hb d_X_merit_90 (lv_at hl 1 rfl) ?_
            exact x_lret hsz hx hb hr hlk hw (by have e := nI_clamp (n := a) (by omega); unfold merX; rw [if_neg c4, e]; rw [if_pos c12, ← hu25]; unfold merA; rw [hb9, nI_clamp (by omega), show i = b by omega]) d_X_merit_92
          · have h41 : ¬ (b) ≤ (i) := fun hz9 => c41 ((nI_leI (a := b) (b := i) (by omega) (by omega)).mpr hz9)
            obtain ⟨j, hj16, hij⟩ := hbj i (by omega)
            refine lv_aload_n hx hb d_X_merit_44 rfl (lv_at hl 3 rfl) ?_
            refine x_get (ci := 6) (k := 0) hx hb ht in_X hown hw (by decide) o_X rfl 2 (by decide) (ht _ w_146) rfl d_X_merit_45 ?_
            refine lv_iload_n hx hb d_X_merit_48 rfl (lv_at hl 4 rfl) ?_
            refine lv_aload_n hx hb d_X_merit_49 rfl (lv_at hl 2 rfl) ?_
            refine lv_iload hx hb d_X_merit_50 (lv_at hl 0 rfl) ?_
            refine x_ci (x_runV (na := 1) (k := 6) (As := [.int (nI i)]) (rest := [.int (nI a), .ref (ad 3)]) (ci := 3) ⟨hx, hb, hml, hown, ht⟩ (m_Ra_documentAt (u := u25) 6 i (Or.inl rfl) (by omega) _) w_385 w_386 w_387 w_8 w_388 (by decide +kernel) ⟨rfl, rfl, by decide, by decide⟩ hw (by omega) (o_Ra (Or.inl rfl)) rfl rfl hl.1 rfl (Nat.le_of_ble_eq_true rfl) d_X_merit_52 ⟨Nat.zero_le _, Nat.zero_le _⟩) hw hA (fun v52 u52 H locs hp hw => ?_)
            obtain ⟨hv9, hu⟩ := hp
            rw [hv9]
            have hu := hu.symm
            subst hu
            rw [show (u25.1 (2 * 6 + 6) i) = (nI j) from hij]
            refine x_ci (x_runV (na := 2) (k := 3) (As := [.int (nI a), .int (nI j)]) (rest := []) (ci := 2) ⟨hx, hb, hml, hown, ht⟩ (m_Ju_gradeOf a j ha8 hj16 _) w_216 w_217 w_218 w_3 w_219 (by decide +kernel) ⟨rfl, rfl, by decide, by decide⟩ hw (by decide) o_Ju rfl rfl hl.1 rfl (Nat.le_of_ble_eq_true rfl) d_X_merit_55 ⟨Nat.zero_le _, Nat.zero_le _⟩) hw hA (fun v55 u55 H locs hp hw => ?_)
            obtain ⟨hv9, hu⟩ := hp
            subst hv9
            have hu := hu.symm
            subst hu
            refine lv_istore (lv' := [(7, .int (u25.1 12 (a * 16 + j))), (6, .int (nI i)), (4, .long (merF u25 6 a i)), (3, .ref (ad 6)), (0, .ref (ad 0)), (1, .int (nI a)), (2, .int z)]) hx hb d_X_merit_58 hl (by decide) rfl (fun ls hl => ?_)
            refine lv_iload hx hb d_X_merit_60 (lv_at hl 0 rfl) ?_
            refine lv_iconst (v := (-1)) hx hb d_X_merit_62 (by decide) ?_
            refine lv_icmp_eq (tgt := 84) hx hb d_X_merit_63 (by decide) (fun c63 => ?_) (fun c63 => ?_)
            · refine lv_iinc (v := (nI (i + 1))) (lv' := [(6, .int (nI (i + 1))), (7, .int (u25.1 12 (a * 16 + j))), (4, .long (merF u25 6 a i)), (3, .ref (ad 6)), (0, .ref (ad 0)), (1, .int (nI a)), (2, .int z)]) hx hb d_X_merit_84 hl (k := 1) rfl (nI_1 _) (by decide) rfl (fun ls hl => ?_)
              refine lv_goto (tgt := 35) hx hb d_X_merit_87 (by decide) ?_
              exact ih35 (i + 1) (by omega) (by omega) _ _ hw ls (by rw [← (show (merF u25 6 a i) = (merF u25 6 a (i + 1)) from (by simp only [merF]; rw [hij, nI_clamp (by omega)]; first | (rw [if_pos c63]; done) | (rw [if_neg c63]; done)))]; exact lv_sub hl [0, 2, 3, 4, 5, 6] rfl)
            · refine lv_lload hx hb d_X_merit_66 (lv_at hl 2 rfl) ?_
              refine lv_lconst (v := 1) hx hb d_X_merit_68 (by decide) ?_
              refine lv_iload hx hb d_X_merit_69 (lv_at hl 0 rfl) ?_
              refine lv_lshl (v := ((1 : Int64) <<< (((u25.1 12 (a * 16 + j)) : Int32).toInt64 &&& 63))) hx hb d_X_merit_71 rfl ?_
              refine lv_lconst (v := 1) hx hb d_X_merit_72 (by decide) ?_
              refine lv_lsub hx hb d_X_merit_73 ?_
              refine lv_ldc (v := 65536) hx hb hown (ht _ w_407) d_X_merit_74 ?_
              refine lv_iload hx hb d_X_merit_76 (lv_at hl 1 rfl) ?_
              refine lv_ishr hx hb d_X_merit_78 ?_
              refine lv_i2l (v := ((65536 : Int32) >>> ((nI i) &&& 31)).toInt64) hx hb d_X_merit_79 rfl ?_
              refine lv_lmul hx hb d_X_merit_80 ?_
              refine lv_ladd hx hb d_X_merit_81 ?_
              refine lv_lstore (lv' := [(4, .long ((merF u25 6 a i) + ((((1 : Int64) <<< (((u25.1 12 (a * 16 + j)) : Int32).toInt64 &&& 63)) - 1) * ((65536 : Int32) >>> ((nI i) &&& 31)).toInt64))), (7, .int (u25.1 12 (a * 16 + j))), (6, .int (nI i)), (3, .ref (ad 6)), (0, .ref (ad 0)), (1, .int (nI a)), (2, .int z)]) hx hb d_X_merit_82 hl (by decide) rfl (fun ls hl => ?_)
              refine lv_iinc (v := (nI (i + 1))) (lv' := [(6, .int (nI (i + 1))), (4, .long ((merF u25 6 a i) + ((((1 : Int64) <<< (((u25.1 12 (a * 16 + j)) : Int32).toInt64 &&& 63)) - 1) * ((65536 : Int32) >>> ((nI i) &&& 31)).toInt64))), (7, .int (u25.1 12 (a * 16 + j))), (3, .ref (ad 6)), (0, .ref (ad 0)), (1, .int (nI a)), (2, .int z)]) hx hb d_X_merit_84 hl (k := 2) rfl (nI_1 _) (by decide) rfl (fun ls hl => ?_)
              refine lv_goto (tgt := 35) hx hb d_X_merit_87 (by decide) ?_
              exact ih35 (i + 1) (by omega) (by omega) _ _ hw ls (by rw [← (show ((merF u25 6 a i) + ((((1 : Int64) <<< (((u25.1 12 (a * 16 + j)) : Int32).toInt64 &&& 63)) - 1) * ((65536 : Int32) >>> ((nI i) &&& 31)).toInt64)) = (merF u25 6 a (i + 1)) from (by simp only [merF]; rw [hij, nI_clamp (by omega)]; first | (rw [if_pos c63]; done) | (rw [if_neg c63]; done)))]; exact lv_sub hl [0, 1, 3, 4, 5, 6] rfl)
      exact L35 ((b - 0) + 1) (0) (by omega) (by omega) _ _ hw ls (lv_sub hl [0, 1, 2, 3, 4, 5] rfl)
    · refine lv_aload_n hx hb d_X_merit_15 rfl (lv_at hl 0 rfl) ?_
      refine lv_iload_n hx hb d_X_merit_16 rfl (lv_at hl 1 rfl) ?_
      refine x_cr (x_runV (na := 1) (k := 0) (As := [.int (nI a)]) (rest := []) (ci := 6) ⟨hx, hb, hml, hown, ht⟩ (m_X_rankAnew a n ha8 hnn hn4 hs hT hd0 _) w_360 w_362 s_9 w_1 w_363 (by decide +kernel) ⟨rfl, rfl, by decide, by decide⟩ hw (by decide) o_X rfl rfl hl.1 rfl (Nat.le_of_ble_eq_true rfl) d_X_merit_17 ⟨Nat.zero_le _, Nat.zero_le _⟩) hw hA (fun u17 k17 H locs hp hw => ?_)
      obtain ⟨hu17, hkk⟩ := Prod.mk.inj hp
      subst hkk
      refine lv_goto (tgt := 28) hx hb d_X_merit_20 (by decide) ?_
      refine lv_astore_n (lv' := [(3, .ref (ad 7)), (0, .ref (ad 0)), (1, .int (nI a)), (2, .int z)]) hx hb d_X_merit_28 rfl hl (by decide) rfl (fun ls hl => ?_)
      obtain ⟨b, hb16, hb9, hbj⟩ : ∃ b : Nat, b ≤ 16 ∧ u17.2.2.1 (7 + 2) = nI b ∧ ∀ j, j < b → ixD (u17.1 (2 * 7 + 6) j) := hu17 ▸ rankF_len u a n hd0
      refine lv_lconst (v := 0) hx hb d_X_merit_29 (by decide) ?_
      refine lv_lstore (lv' := [(4, .long 0), (3, .ref (ad 7)), (0, .ref (ad 0)), (1, .int (nI a)), (2, .int z)]) hx hb d_X_merit_30 hl (by decide) rfl (fun ls hl => ?_)
      refine lv_iconst (v := 0) hx hb d_X_merit_32 (by decide) ?_
      refine lv_istore (lv' := [(6, .int 0), (4, .long 0), (3, .ref (ad 7)), (0, .ref (ad 0)), (1, .int (nI a)), (2, .int z)]) hx hb d_X_merit_33 hl (by decide) rfl (fun ls hl => ?_)
      have L35 : ∀ (n35 : Nat) (i : Nat), i ≤ b → b - i < n35 → ∀ (H : Heap) (locs : List Loc), XH D g ad (AX ad sz) s s.heap H locs u17 → ∀ ls : Array Slot, lv_has ls 8 [(6, .int (nI i)), (4, .long (merF u17 7 a i)), (3, .ref (ad 7)), (0, .ref (ad 0)), (1, .int (nI a)), (2, .int z)] → W p l e (rmN 5 114) s m ([.ref (ad 0), .int (nI a), .int z] : List Value).toArray below meth c H locs 0 0 (MQ below (va_Ql (fun v r => (v, r) = merX u (nI a) z n) (XB D g ad sz) (AX ad sz)) ([.ref (ad 0), .int (nI a), .int z] : List Value).toArray s 0 0 (AX ad sz)) (F0 m 35 ls []) := by
        intro n35
        induction n35 with
        | zero => intro i hi hz; exact absurd hz (by omega)
        | succ n35 ih35 =>
          intro i hi hnL35 H locs hw ls hl
          refine lv_iload hx hb d_X_merit_35 (lv_at hl 0 rfl) ?_
          refine lv_aload_n hx hb d_X_merit_37 rfl (lv_at hl 2 rfl) ?_
          refine x_ci (x_runV (na := 0) (k := 7) (As := []) (rest := [.int (nI i)]) (ci := 3) ⟨hx, hb, hml, hown, ht⟩ (m_Ra_length (u := u17) 7 (Or.inr rfl) _) w_381 w_382 w_383 w_8 w_384 (by decide +kernel) ⟨rfl, rfl, by decide, by decide⟩ hw (by omega) (o_Ra (Or.inr rfl)) rfl rfl hl.1 rfl (Nat.le_of_ble_eq_true rfl) d_X_merit_38 ⟨Nat.zero_le _, Nat.zero_le _⟩) hw hA (fun v38 u38 H locs hp hw => ?_)
          obtain ⟨hv9, hu⟩ := hp
          rw [hv9]
          have hu := hu.symm
          subst hu
          rw [show (u17.2.2.1 (7 + 2)) = (nI b) from hb9]
          refine lv_icmp_ge (tgt := 90) hx hb d_X_merit_41 (by decide) (fun c41 => ?_) (fun c41 => ?_)
          · have h41 : (b) ≤ (i) := (nI_leI (a := b) (b := i) (by omega) (by omega)).mp c41
            refine lv_lload hx hb d_X_merit_90 (lv_at hl 1 rfl) ?_
            exact x_lret hsz hx hb hr hlk hw (by have e := nI_clamp (n := a) (by omega); unfold merX; rw [if_neg c4, e]; rw [if_neg c12, ← hu17]; unfold merA; rw [hb9, nI_clamp (by omega), show i = b by omega]) d_X_merit_92
          · have h41 : ¬ (b) ≤ (i) := fun hz9 => c41 ((nI_leI (a := b) (b := i) (by omega) (by omega)).mpr hz9)
            obtain ⟨j, hj16, hij⟩ := hbj i (by omega)
            refine lv_aload_n hx hb d_X_merit_44 rfl (lv_at hl 3 rfl) ?_
            refine x_get (ci := 6) (k := 0) hx hb ht in_X hown hw (by decide) o_X rfl 2 (by decide) (ht _ w_146) rfl d_X_merit_45 ?_
            refine lv_iload_n hx hb d_X_merit_48 rfl (lv_at hl 4 rfl) ?_
            refine lv_aload_n hx hb d_X_merit_49 rfl (lv_at hl 2 rfl) ?_
            refine lv_iload hx hb d_X_merit_50 (lv_at hl 0 rfl) ?_
            refine x_ci (x_runV (na := 1) (k := 7) (As := [.int (nI i)]) (rest := [.int (nI a), .ref (ad 3)]) (ci := 3) ⟨hx, hb, hml, hown, ht⟩ (m_Ra_documentAt (u := u17) 7 i (Or.inr rfl) (by omega) _) w_385 w_386 w_387 w_8 w_388 (by decide +kernel) ⟨rfl, rfl, by decide, by decide⟩ hw (by omega) (o_Ra (Or.inr rfl)) rfl rfl hl.1 rfl (Nat.le_of_ble_eq_true rfl) d_X_merit_52 ⟨Nat.zero_le _, Nat.zero_le _⟩) hw hA (fun v52 u52 H locs hp hw => ?_)
            obtain ⟨hv9, hu⟩ := hp
            rw [hv9]
            have hu := hu.symm
            subst hu
            rw [show (u17.1 (2 * 7 + 6) i) = (nI j) from hij]
            refine x_ci (x_runV (na := 2) (k := 3) (As := [.int (nI a), .int (nI j)]) (rest := []) (ci := 2) ⟨hx, hb, hml, hown, ht⟩ (m_Ju_gradeOf a j ha8 hj16 _) w_216 w_217 w_218 w_3 w_219 (by decide +kernel) ⟨rfl, rfl, by decide, by decide⟩ hw (by decide) o_Ju rfl rfl hl.1 rfl (Nat.le_of_ble_eq_true rfl) d_X_merit_55 ⟨Nat.zero_le _, Nat.zero_le _⟩) hw hA (fun v55 u55 H locs hp hw => ?_)
            obtain ⟨hv9, hu⟩ := hp
            subst hv9
            have hu := hu.symm
            subst hu
            refine lv_istore (lv' := [(7, .int (u17.1 12 (a * 16 + j))), (6, .int (nI i)), (4, .long (merF u17 7 a i)), (3, .ref (ad 7)), (0, .ref (ad 0)), (1, .int (nI a)), (2, .int z)]) hx hb d_X_merit_58 hl (by decide) rfl (fun ls hl => ?_)
            refine lv_iload hx hb d_X_merit_60 (lv_at hl 0 rfl) ?_
            refine lv_iconst (v := (-1)) hx hb d_X_merit_62 (by decide) ?_
            refine lv_icmp_eq (tgt := 84) hx hb d_X_merit_63 (by decide) (fun c63 => ?_) (fun c63 => ?_)
            · refine lv_iinc (v := (nI (i + 1))) (lv' := [(6, .int (nI (i + 1))), (7, .int (u17.1 12 (a * 16 + j))), (4, .long (merF u17 7 a i)), (3, .ref (ad 7)), (0, .ref (ad 0)), (1, .int (nI a)), (2, .int z)]) hx hb d_X_merit_84 hl (k := 1) rfl (nI_1 _) (by decide) rfl (fun ls hl => ?_)
              refine lv_goto (tgt := 35) hx hb d_X_merit_87 (by decide) ?_
              exact ih35 (i + 1) (by omega) (by omega) _ _ hw ls (by rw [← (show (merF u17 7 a i) = (merF u17 7 a (i + 1)) from (by simp only [merF]; rw [hij, nI_clamp (by omega)]; first | (rw [if_pos c63]; done) | (rw [if_neg c63]; done)))]; exact lv_sub hl [0, 2, 3, 4, 5, 6] rfl)
            · refine lv_lload hx hb d_X_merit_66 (lv_at hl 2 rfl) ?_
              refine lv_lconst (v := 1) hx hb d_X_merit_68 (by decide) ?_
              refine lv_iload hx hb d_X_merit_69 (lv_at hl 0 rfl) ?_
              refine lv_lshl (v := ((1 : Int64) <<< (((u17.1 12 (a * 16 + j)) : Int32).toInt64 &&& 63))) hx hb d_X_merit_71 rfl ?_
              refine lv_lconst (v := 1) hx hb d_X_merit_72 (by decide) ?_
              refine lv_lsub hx hb d_X_merit_73 ?_
              refine lv_ldc (v := 65536) hx hb hown (ht _ w_407) d_X_merit_74 ?_
              refine lv_iload hx hb d_X_merit_76 (lv_at hl 1 rfl) ?_
              refine lv_ishr hx hb d_X_merit_78 ?_
              refine lv_i2l (v := ((65536 : Int32) >>> ((nI i) &&& 31)).toInt64) hx hb d_X_merit_79 rfl ?_
              refine lv_lmul hx hb d_X_merit_80 ?_
              refine lv_ladd hx hb d_X_merit_81 ?_
              refine lv_lstore (lv' := [(4, .long ((merF u17 7 a i) + ((((1 : Int64) <<< (((u17.1 12 (a * 16 + j)) : Int32).toInt64 &&& 63)) - 1) * ((65536 : Int32) >>> ((nI i) &&& 31)).toInt64))), (7, .int (u17.1 12 (a * 16 + j))), (6, .int (nI i)), (3, .ref (ad 7)), (0, .ref (ad 0)), (1, .int (nI a)), (2, .int z)]) hx hb d_X_merit_82 hl (by decide) rfl (fun ls hl => ?_)
              refine lv_iinc (v := (nI (i + 1))) (lv' := [(6, .int (nI (i + 1))), (4, .long ((merF u17 7 a i) + ((((1 : Int64) <<< (((u17.1 12 (a * 16 + j)) : Int32).toInt64 &&& 63)) - 1) * ((65536 : Int32) >>> ((nI i) &&& 31)).toInt64))), (7, .int (u17.1 12 (a * 16 + j))), (3, .ref (ad 7)), (0, .ref (ad 0)), (1, .int (nI a)), (2, .int z)]) hx hb d_X_merit_84 hl (k := 2) rfl (nI_1 _) (by decide) rfl (fun ls hl => ?_)
              refine lv_goto (tgt := 35) hx hb d_X_merit_87 (by decide) ?_
              exact ih35 (i + 1) (by omega) (by omega) _ _ hw ls (by rw [← (show ((merF u17 7 a i) + ((((1 : Int64) <<< (((u17.1 12 (a * 16 + j)) : Int32).toInt64 &&& 63)) - 1) * ((65536 : Int32) >>> ((nI i) &&& 31)).toInt64)) = (merF u17 7 a (i + 1)) from (by simp only [merF]; rw [hij, nI_clamp (by omega)]; first | (rw [if_pos c63]; done) | (rw [if_neg c63]; done)))]; exact lv_sub hl [0, 1, 3, 4, 5, 6] rfl)
      exact L35 ((b - 0) + 1) (0) (by omega) (by omega) _ _ hw ls (lv_sub hl [0, 1, 2, 3, 4, 5] rfl)
  · refine lv_ldc2 (v := (-1000000000000000)) hx hb hown (ht _ w_402) d_X_merit_7 ?_
    exact x_lret hsz hx hb hr hlk hw (by simp [merX, c4]) d_X_merit_10)
