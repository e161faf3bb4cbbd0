theorem in_in {x n : Int32} {N : Nat} (h : ¬ inF x n = 0) (hn : n = nI N := by rfl) (hN : N < 2 ^ 31 := by decide) : vp_in x N := by
  unfold inF at h
  split at h
  · exact absurd rfl h
  · rename_i h1
    split at h
    · exact absurd rfl h
    · rename_i h2
      obtain ⟨j, hj, rfl⟩ := nI_of h1
      rw [hn] at h2
      exact vp_in_nI (by have := Nat.not_le.mp (fun q => h2 ((nI_leI (a := N) (b := j) (by omega) hj).mpr q)); omega) hN
theorem holds_in {u : St} {d : Int32} (h : ¬ holdsF u d = 0) : vp_in d 16 := within_in (n := 15) (fun q => h (by unfold holdsF; rw [if_pos q])) rfl (by decide) (by decide)
def isThF (u : St) (d : Int32) : Int32 := if inF d 16 = 0 then 0 else if u.1 76 d.toNatClampNeg = 0 then 0 else 1
theorem isTh_in {u : St} {d : Int32} (h : ¬ isThF u d = 0) : vp_in d 16 := in_in (n := 16) (fun q => h (by unfold isThF; rw [if_pos q])) rfl (by decide)
def putF (u : St) (d : Nat) (q : Int32) : St := fillF (sI (sI u 9 d 1) 10 d q) (22 + d) 0 12
def docX (u : St) (d q : Int32) : Int32 × St := if withinF d 15 = 0 then (-1, u) else if withinF q 15 = 0 then (-1, u) else (0, fillF (sI (sI u 9 d.toNatClampNeg 1) 10 d.toNatClampNeg q) (22 + d.toNatClampNeg) 0 12)
def remX (u : St) (d : Int32) : Int32 × St := if holdsF u d = 0 then (-1, u) else (0, sI u 9 d.toNatClampNeg 0)
def termX (u : St) (d k x : Int32) : Int32 × St := if holdsF u d = 0 then (-1, u) else if withinF k 11 = 0 then (-1, u) else if withinF x 15 = 0 then (-1, u) else (0, sI u (22 + d.toNatClampNeg) k.toNatClampNeg x)
def qryX (u : St) (q x : Int32) : Int32 × St := if withinF q 7 = 0 then (-1, u) else if withinF x 4095 = 0 then (-1, u) else (0, sI u 2 q.toNatClampNeg x)
def depX (u : St) (n : Int32) : Int32 × St := if n < 1 then (-1, u) else if n ≤ 16 then (0, sF u 0 n) else (-1, u)
def depM (u : St) (n : Int32) : Int32 × St := if n < 1 then (-1, u) else if n ≤ 16 then (0, sF u 10 n) else (-1, u)
def qryM (u : St) (q x : Int32) : Int32 × St := if inF q 8 = 0 then (-1, u) else if inF x 4096 = 0 then (-1, u) else (0, sI u 79 q.toNatClampNeg x)
def remM (u : St) (d : Int32) : Int32 × St := if isThF u d = 0 then (-1, u) else (0, sI u 76 d.toNatClampNeg 0)
def termM (u : St) (d k x : Int32) : Int32 × St := if isThF u d = 0 then (-1, u) else if inF k 12 = 0 then (-1, u) else if inF x 16 = 0 then (-1, u) else (0, sI u 78 (d.toNatClampNeg * 12 + k.toNatClampNeg) x)
def clrF (u : St) (b : Nat) : Nat → St
  | 0 => u
  | t + 1 => sI (clrF u b t) 78 (b + t) 0
def docM (u : St) (d q : Int32) : Int32 × St := if inF d 16 = 0 then (-1, u) else if inF q 16 = 0 then (-1, u) else (0, clrF (sI (sI u 76 d.toNatClampNeg 1) 77 d.toNatClampNeg q) (d.toNatClampNeg * 12) 12)
def posF (f : Nat → Int32) : Nat → Int32
  | 0 => 0
  | t + 1 => if f t < 0 then posF f t else posF f t + 1
def judM (u : St) (q d x : Int32) : Int32 × St := if inF q 8 = 0 then (-1, u) else if inF d 16 = 0 then (-1, u) else if x < -1 then (-1, u) else if x ≤ 7 then
  (if 0 ≤ u.1 80 (q.toNatClampNeg * 16 + d.toNatClampNeg) then (0, sI u 80 (q.toNatClampNeg * 16 + d.toNatClampNeg) x) else if x < 0 then (0, sI u 80 (q.toNatClampNeg * 16 + d.toNatClampNeg) x) else if posF (u.1 80) 128 = 16 then (-2, u) else (0, sI u 80 (q.toNatClampNeg * 16 + d.toNatClampNeg) x)) else (-1, u)
def judX (u : St) (q d x : Int32) : Int32 × St := if withinF q 7 = 0 then (-1, u) else if withinF d 15 = 0 then (-1, u) else
  if x = -1 then (0, jsetF u (q.toNatClampNeg * 16 + d.toNatClampNeg) x) else if withinF x 7 = 0 then (-1, u) else
  if u.1 12 (q.toNatClampNeg * 16 + d.toNatClampNeg) = -1 then (if u.2.2.1 1 < 16 then (0, jsetF u (q.toNatClampNeg * 16 + d.toNatClampNeg) x) else (-2, u)) else (0, jsetF u (q.toNatClampNeg * 16 + d.toNatClampNeg) x)
set_option maxHeartbeats 4000000 in
set_option maxRecDepth 100000 in
theorem m_X_document {l : Launch} {D : va_G} {g : Ids} {ad : Nat → Nat} {u : St} (d : Int32) (q : Int32) : XMi l D g ad y_X_document b_X_document 3 ((some .int)) (rmN 2 45) [.ref (ad 0), .int d, .int q] u (fun v w => (v, w) = docX u d q) := fun sz => x_met (by decide) (Nat.le_of_ble_eq_true rfl) (fun p e s m below meth c hsz hx hb hr hml hown ht hlk hw ls hl => by
  have hA : ∀ q, s.heap.size ≤ q → AX ad sz q := fun q h => Or.inr (hsz ▸ h)
  have hl : lv_has ls 3 [(0, .ref (ad 0)), (1, .int d), (2, .int q)] := hl
  refine lv_iload_n hx hb d_X_document_0 rfl (lv_at hl 1 rfl) ?_
  refine lv_bipush (v := 15) hx hb d_X_document_1 (by decide) ?_
  refine x_ci (x_runS (na := 2) (As := [.int d, .int 15]) (rest := []) ⟨hx, hb, hml, hown, ht⟩ (m_X_within d 15 _) w_176 w_177 w_1 w_178 (by decide +kernel) ⟨rfl, rfl, by decide, by decide⟩ hw rfl hl.1 rfl (Nat.le_of_ble_eq_true rfl) d_X_document_3 ⟨Nat.zero_le _, Nat.zero_le _⟩) hw hA (fun v3 u3 H locs hp hw => ?_)
  obtain ⟨hv9, hu⟩ := hp
  subst hv9
  have hu := hu.symm
  subst hu
  refine lv_if_eq (tgt := 18) hx hb d_X_document_6 (by decide) (fun c6 => ?_) (fun c6 => ?_)
  · refine lv_iconst (v := (-1)) hx hb d_X_document_18 (by decide) ?_
    exact x_iret hsz hx hb hr hlk hw (by simp [docX, c6]) d_X_document_19
  · refine lv_iload_n hx hb d_X_document_9 rfl (lv_at hl 2 rfl) ?_
    refine lv_bipush (v := 15) hx hb d_X_document_10 (by decide) ?_
    refine x_ci (x_runS (na := 2) (As := [.int q, .int 15]) (rest := []) ⟨hx, hb, hml, hown, ht⟩ (m_X_within q 15 _) w_176 w_177 w_1 w_178 (by decide +kernel) ⟨rfl, rfl, by decide, by decide⟩ hw rfl hl.1 rfl (Nat.le_of_ble_eq_true rfl) d_X_document_12 ⟨Nat.zero_le _, Nat.zero_le _⟩) hw hA (fun v12 u12 H locs hp hw => ?_)
    obtain ⟨hv9, hu⟩ := hp
    subst hv9
    have hu := hu.symm
    subst hu
    refine lv_if_ne (tgt := 20) hx hb d_X_document_15 (by decide) (fun c15 => ?_) (fun c15 => ?_)
    · obtain ⟨j, hj, rfl⟩ : ∃ j : Nat, j < 16 ∧ d = nI j := vp_in_of (within_in (N := 16) c6) (by decide)
      refine lv_aload_n hx hb d_X_document_20 rfl (lv_at hl 0 rfl) ?_
      refine x_get (ci := 6) (k := 0) hx hb ht in_X hown hw (by decide) o_X rfl 0 (by decide) (ht _ w_144) rfl d_X_document_21 ?_
      refine lv_iload_n hx hb d_X_document_24 rfl (lv_at hl 1 rfl) ?_
      refine lv_iload_n hx hb d_X_document_25 rfl (lv_at hl 2 rfl) ?_
      refine x_cv (x_runV (na := 2) (k := 1) (As := [.int (nI j), .int q]) (rest := []) (ci := 4) ⟨hx, hb, hml, hown, ht⟩ (m_Sh_put j q hj _) w_179 w_180 w_181 w_2 w_182 (by decide +kernel) ⟨rfl, rfl, by decide, by decide⟩ hw (by decide) o_Sh rfl rfl hl.1 rfl (Nat.le_of_ble_eq_true rfl) d_X_document_26 ⟨Nat.zero_le _, Nat.zero_le _⟩) hw hA (fun u26 H locs hp hw => ?_)
      have hu := hp.symm
      subst hu
      refine lv_iconst (v := 0) hx hb d_X_document_29 (by decide) ?_
      exact x_iret hsz hx hb hr hlk hw (by have e := nI_clamp (n := j) (by omega); simp [docX, c6, c15, e]) d_X_document_30
    · refine lv_iconst (v := (-1)) hx hb d_X_document_18 (by decide) ?_
      exact x_iret hsz hx hb hr hlk hw (by simp [docX, c6, c15]) d_X_document_19)
set_option maxHeartbeats 4000000 in
set_option maxRecDepth 100000 in
theorem m_M_isThere {l : Launch} {D : va_G} {g : Ids} {ad : Nat → Nat} {u : St} (d : Int32) : XMi l D g ad y_M_isThere b_M_isThere 2 ((some .boolean)) (rmN 1 21) [.ref (ad 75), .int d] u (fun v w => v = isThF u d ∧ w = u) := fun sz => x_met (by decide) (Nat.le_of_ble_eq_true rfl) (fun p e s m below meth c hsz hx hb hr hml hown ht hlk hw ls hl => by
  have hA : ∀ q, s.heap.size ≤ q → AX ad sz q := fun q h => Or.inr (hsz ▸ h)
  have hl : lv_has ls 2 [(0, .ref (ad 75)), (1, .int d)] := hl
  refine lv_iload_n hx hb d_M_isThere_0 rfl (lv_at hl 1 rfl) ?_
  refine lv_bipush (v := 16) hx hb d_M_isThere_1 (by decide) ?_
  refine x_ci (x_runS (na := 2) (As := [.int d, .int 16]) (rest := []) ⟨hx, hb, hml, hown, ht⟩ (m_M_in d 16 _) w_554 w_555 w_9 w_556 (by decide +kernel) ⟨rfl, rfl, by decide, by decide⟩ hw rfl hl.1 rfl (Nat.le_of_ble_eq_true rfl) d_M_isThere_3 ⟨Nat.zero_le _, Nat.zero_le _⟩) hw hA (fun v3 u3 H locs hp hw => ?_)
  obtain ⟨hv9, hu⟩ := hp
  subst hv9
  have hu := hu.symm
  subst hu
  refine lv_if_eq (tgt := 22) hx hb d_M_isThere_6 (by decide) (fun c6 => ?_) (fun c6 => ?_)
  · refine lv_iconst (v := 0) hx hb d_M_isThere_22 (by decide) ?_
    exact x_zret hsz hx hb hr hlk hw rfl ⟨by simp [isThF, c6], rfl⟩ d_M_isThere_23
  · refine lv_aload_n hx hb d_M_isThere_9 rfl (lv_at hl 0 rfl) ?_
    refine x_get (ci := 7) (k := 75) hx hb ht in_M hown hw (by decide) o_M rfl 0 (by decide) (ht _ w_486) rfl d_M_isThere_10 ?_
    refine lv_iload_n hx hb d_M_isThere_13 rfl (lv_at hl 1 rfl) ?_
    refine x_zald (k := 76) hx hb hw (by decide) rfl (in_in (N := 16) c6) d_M_isThere_14 ?_
    refine lv_if_eq (tgt := 22) hx hb d_M_isThere_15 (by decide) (fun c15 => ?_) (fun c15 => ?_)
    · refine lv_iconst (v := 0) hx hb d_M_isThere_22 (by decide) ?_
      exact x_zret hsz hx hb hr hlk hw rfl ⟨by simp [isThF, c6, c15], rfl⟩ d_M_isThere_23
    · refine lv_iconst (v := 1) hx hb d_M_isThere_18 (by decide) ?_
      refine lv_goto (tgt := 23) hx hb d_M_isThere_19 (by decide) ?_
      exact x_zret hsz hx hb hr hlk hw rfl ⟨by simp [isThF, c6, c15], rfl⟩ d_M_isThere_23)
set_option maxHeartbeats 4000000 in
set_option maxRecDepth 100000 in
theorem m_X_remove {l : Launch} {D : va_G} {g : Ids} {ad : Nat → Nat} {u : St} (d : Int32) : XMi l D g ad y_X_remove b_X_remove 2 ((some .int)) (rmN 2 42) [.ref (ad 0), .int d] u (fun v w => (v, w) = remX u d) := fun sz => x_met (by decide) (Nat.le_of_ble_eq_true rfl) (fun p e s m below meth c hsz hx hb hr hml hown ht hlk hw ls hl => by
  have hA : ∀ q, s.heap.size ≤ q → AX ad sz q := fun q h => Or.inr (hsz ▸ h)
  have hl : lv_has ls 2 [(0, .ref (ad 0)), (1, .int d)] := hl
  refine lv_aload_n hx hb d_X_remove_0 rfl (lv_at hl 0 rfl) ?_
  refine x_get (ci := 6) (k := 0) hx hb ht in_X hown hw (by decide) o_X rfl 0 (by decide) (ht _ w_144) rfl d_X_remove_1 ?_
  refine lv_iload_n hx hb d_X_remove_4 rfl (lv_at hl 1 rfl) ?_
  refine x_ci (x_runV (na := 1) (k := 1) (As := [.int d]) (rest := []) (ci := 4) ⟨hx, hb, hml, hown, ht⟩ (m_Sh_holds d _) w_188 w_189 w_190 w_2 w_191 (by decide +kernel) ⟨rfl, rfl, by decide, by decide⟩ hw (by decide) o_Sh rfl rfl hl.1 rfl (Nat.le_of_ble_eq_true rfl) d_X_remove_5 ⟨Nat.zero_le _, Nat.zero_le _⟩) hw hA (fun v5 u5 H locs hp hw => ?_)
  obtain ⟨hv9, hu⟩ := hp
  subst hv9
  have hu := hu.symm
  subst hu
  refine lv_if_ne (tgt := 13) hx hb d_X_remove_8 (by decide) (fun c8 => ?_) (fun c8 => ?_)
  · obtain ⟨j, hj, rfl⟩ : ∃ j : Nat, j < 16 ∧ d = nI j := vp_in_of (holds_in c8) (by decide)
    refine lv_aload_n hx hb d_X_remove_13 rfl (lv_at hl 0 rfl) ?_
    refine x_get (ci := 6) (k := 0) hx hb ht in_X hown hw (by decide) o_X rfl 0 (by decide) (ht _ w_144) rfl d_X_remove_14 ?_
    refine lv_iload_n hx hb d_X_remove_17 rfl (lv_at hl 1 rfl) ?_
    refine x_cv (x_runV (na := 1) (k := 1) (As := [.int (nI j)]) (rest := []) (ci := 4) ⟨hx, hb, hml, hown, ht⟩ (m_Sh_drop j hj _) w_193 w_194 w_195 w_2 w_196 (by decide +kernel) ⟨rfl, rfl, by decide, by decide⟩ hw (by decide) o_Sh rfl rfl hl.1 rfl (Nat.le_of_ble_eq_true rfl) d_X_remove_18 ⟨Nat.zero_le _, Nat.zero_le _⟩) hw hA (fun u18 H locs hp hw => ?_)
    have hu := hp.symm
    subst hu
    refine lv_iconst (v := 0) hx hb d_X_remove_21 (by decide) ?_
    exact x_iret hsz hx hb hr hlk hw (by have e := nI_clamp (n := j) (by omega); simp [remX, c8, e]) d_X_remove_22
  · refine lv_iconst (v := (-1)) hx hb d_X_remove_11 (by decide) ?_
    exact x_iret hsz hx hb hr hlk hw (by simp [remX, c8]) d_X_remove_12)
set_option maxHeartbeats 4000000 in
set_option maxRecDepth 100000 in
theorem m_X_term {l : Launch} {D : va_G} {g : Ids} {ad : Nat → Nat} {u : St} (d : Int32) (k : Int32) (x : Int32) : XMi l D g ad y_X_term b_X_term 4 ((some .int)) (rmN 2 42) [.ref (ad 0), .int d, .int k, .int x] u (fun v w => (v, w) = termX u d k x) := fun sz => x_met (by decide) (Nat.le_of_ble_eq_true rfl) (fun p e s m below meth c hsz hx hb hr hml hown ht hlk hw ls hl => by
  have hA : ∀ q, s.heap.size ≤ q → AX ad sz q := fun q h => Or.inr (hsz ▸ h)
  have hl : lv_has ls 4 [(0, .ref (ad 0)), (1, .int d), (2, .int k), (3, .int x)] := hl
  refine lv_aload_n hx hb d_X_term_0 rfl (lv_at hl 0 rfl) ?_
  refine x_get (ci := 6) (k := 0) hx hb ht in_X hown hw (by decide) o_X rfl 0 (by decide) (ht _ w_144) rfl d_X_term_1 ?_
  refine lv_iload_n hx hb d_X_term_4 rfl (lv_at hl 1 rfl) ?_
  refine x_ci (x_runV (na := 1) (k := 1) (As := [.int d]) (rest := []) (ci := 4) ⟨hx, hb, hml, hown, ht⟩ (m_Sh_holds d _) w_188 w_189 w_190 w_2 w_191 (by decide +kernel) ⟨rfl, rfl, by decide, by decide⟩ hw (by decide) o_Sh rfl rfl hl.1 rfl (Nat.le_of_ble_eq_true rfl) d_X_term_5 ⟨Nat.zero_le _, Nat.zero_le _⟩) hw hA (fun v5 u5 H locs hp hw => ?_)
  obtain ⟨hv9, hu⟩ := hp
  subst hv9
  have hu := hu.symm
  subst hu
  refine lv_if_eq (tgt := 29) hx hb d_X_term_8 (by decide) (fun c8 => ?_) (fun c8 => ?_)
  · refine lv_iconst (v := (-1)) hx hb d_X_term_29 (by decide) ?_
    exact x_iret hsz hx hb hr hlk hw (by simp [termX, c8]) d_X_term_30
  · refine lv_iload_n hx hb d_X_term_11 rfl (lv_at hl 2 rfl) ?_
    refine lv_bipush (v := 11) hx hb d_X_term_12 (by decide) ?_
    refine x_ci (x_runS (na := 2) (As := [.int k, .int 11]) (rest := []) ⟨hx, hb, hml, hown, ht⟩ (m_X_within k 11 _) w_176 w_177 w_1 w_178 (by decide +kernel) ⟨rfl, rfl, by decide, by decide⟩ hw rfl hl.1 rfl (Nat.le_of_ble_eq_true rfl) d_X_term_14 ⟨Nat.zero_le _, Nat.zero_le _⟩) hw hA (fun v14 u14 H locs hp hw => ?_)
    obtain ⟨hv9, hu⟩ := hp
    subst hv9
    have hu := hu.symm
    subst hu
    refine lv_if_eq (tgt := 29) hx hb d_X_term_17 (by decide) (fun c17 => ?_) (fun c17 => ?_)
    · refine lv_iconst (v := (-1)) hx hb d_X_term_29 (by decide) ?_
      exact x_iret hsz hx hb hr hlk hw (by simp [termX, c8, c17]) d_X_term_30
    · refine lv_iload_n hx hb d_X_term_20 rfl (lv_at hl 3 rfl) ?_
      refine lv_bipush (v := 15) hx hb d_X_term_21 (by decide) ?_
      refine x_ci (x_runS (na := 2) (As := [.int x, .int 15]) (rest := []) ⟨hx, hb, hml, hown, ht⟩ (m_X_within x 15 _) w_176 w_177 w_1 w_178 (by decide +kernel) ⟨rfl, rfl, by decide, by decide⟩ hw rfl hl.1 rfl (Nat.le_of_ble_eq_true rfl) d_X_term_23 ⟨Nat.zero_le _, Nat.zero_le _⟩) hw hA (fun v23 u23 H locs hp hw => ?_)
      obtain ⟨hv9, hu⟩ := hp
      subst hv9
      have hu := hu.symm
      subst hu
      refine lv_if_ne (tgt := 31) hx hb d_X_term_26 (by decide) (fun c26 => ?_) (fun c26 => ?_)
      · obtain ⟨j, hj, rfl⟩ : ∃ j : Nat, j < 16 ∧ d = nI j := vp_in_of (holds_in c8) (by decide)
        obtain ⟨i, hi, rfl⟩ : ∃ j : Nat, j < 12 ∧ k = nI j := vp_in_of (within_in (N := 12) c17) (by decide)
        refine lv_aload_n hx hb d_X_term_31 rfl (lv_at hl 0 rfl) ?_
        refine x_get (ci := 6) (k := 0) hx hb ht in_X hown hw (by decide) o_X rfl 0 (by decide) (ht _ w_144) rfl d_X_term_32 ?_
        refine lv_iload_n hx hb d_X_term_35 rfl (lv_at hl 1 rfl) ?_
        refine lv_iload_n hx hb d_X_term_36 rfl (lv_at hl 2 rfl) ?_
        refine lv_iload_n hx hb d_X_term_37 rfl (lv_at hl 3 rfl) ?_
        refine x_cv (x_runV (na := 3) (k := 1) (As := [.int (nI j), .int (nI i), .int x]) (rest := []) (ci := 4) ⟨hx, hb, hml, hown, ht⟩ (m_Sh_setCount j i x hj hi _) w_201 w_202 w_203 w_2 w_204 (by decide +kernel) ⟨rfl, rfl, by decide, by decide⟩ hw (by decide) o_Sh rfl rfl hl.1 rfl (Nat.le_of_ble_eq_true rfl) d_X_term_38 ⟨Nat.zero_le _, Nat.zero_le _⟩) hw hA (fun u38 H locs hp hw => ?_)
        have hu := hp.symm
        subst hu
        refine lv_iconst (v := 0) hx hb d_X_term_41 (by decide) ?_
        exact x_iret hsz hx hb hr hlk hw (by have e := nI_clamp (n := j) (by omega); have e2 := nI_clamp (n := i) (by omega); simp [termX, c8, c17, c26, e, e2]) d_X_term_42
      · refine lv_iconst (v := (-1)) hx hb d_X_term_29 (by decide) ?_
        exact x_iret hsz hx hb hr hlk hw (by simp [termX, c8, c17, c26]) d_X_term_30)
set_option maxHeartbeats 4000000 in
set_option maxRecDepth 100000 in
theorem m_X_query {l : Launch} {D : va_G} {g : Ids} {ad : Nat → Nat} {u : St} (q : Int32) (x : Int32) : XMi l D g ad y_X_query b_X_query 3 ((some .int)) (rmN 2 41) [.ref (ad 0), .int q, .int x] u (fun v w => (v, w) = qryX u q x) := fun sz => x_met (by decide) (Nat.le_of_ble_eq_true rfl) (fun p e s m below meth c hsz hx hb hr hml hown ht hlk hw ls hl => by
  have hA : ∀ q, s.heap.size ≤ q → AX ad sz q := fun q h => Or.inr (hsz ▸ h)
  have hl : lv_has ls 3 [(0, .ref (ad 0)), (1, .int q), (2, .int x)] := hl
  refine lv_iload_n hx hb d_X_query_0 rfl (lv_at hl 1 rfl) ?_
  refine x_ci (x_runS (na := 1) (As := [.int q]) (rest := []) ⟨hx, hb, hml, hown, ht⟩ (m_X_isQuery q _) w_209 w_210 w_1 w_211 (by decide +kernel) ⟨rfl, rfl, by decide, by decide⟩ hw rfl hl.1 rfl (Nat.le_of_ble_eq_true rfl) d_X_query_1 ⟨Nat.zero_le _, Nat.zero_le _⟩) hw hA (fun v1 u1 H locs hp hw => ?_)
  obtain ⟨hv9, hu⟩ := hp
  subst hv9
  have hu := hu.symm
  subst hu
  refine lv_if_eq (tgt := 17) hx hb d_X_query_4 (by decide) (fun c4 => ?_) (fun c4 => ?_)
  · refine lv_iconst (v := (-1)) hx hb d_X_query_17 (by decide) ?_
    exact x_iret hsz hx hb hr hlk hw (by simp [qryX, c4]) d_X_query_18
  · refine lv_iload_n hx hb d_X_query_7 rfl (lv_at hl 2 rfl) ?_
    refine lv_sipush (v := 4095) hx hb d_X_query_8 (by decide) ?_
    refine x_ci (x_runS (na := 2) (As := [.int x, .int 4095]) (rest := []) ⟨hx, hb, hml, hown, ht⟩ (m_X_within x 4095 _) w_176 w_177 w_1 w_178 (by decide +kernel) ⟨rfl, rfl, by decide, by decide⟩ hw rfl hl.1 rfl (Nat.le_of_ble_eq_true rfl) d_X_query_11 ⟨Nat.zero_le _, Nat.zero_le _⟩) hw hA (fun v11 u11 H locs hp hw => ?_)
    obtain ⟨hv9, hu⟩ := hp
    subst hv9
    have hu := hu.symm
    subst hu
    refine lv_if_ne (tgt := 19) hx hb d_X_query_14 (by decide) (fun c14 => ?_) (fun c14 => ?_)
    · obtain ⟨j, hj, rfl⟩ : ∃ j : Nat, j < 8 ∧ q = nI j := vp_in_of (within_in (N := 8) c4) (by decide)
      refine lv_aload_n hx hb d_X_query_19 rfl (lv_at hl 0 rfl) ?_
      refine x_get (ci := 6) (k := 0) hx hb ht in_X hown hw (by decide) o_X rfl 1 (by decide) (ht _ w_145) rfl d_X_query_20 ?_
      refine lv_iload_n hx hb d_X_query_23 rfl (lv_at hl 1 rfl) ?_
      refine lv_iload_n hx hb d_X_query_24 rfl (lv_at hl 2 rfl) ?_
      refine x_iast (k := 2) hx hb hw (by decide) rfl (vin (N := 8) (by omega) rfl (by omega)) d_X_query_25 (fun H locs hw => ?_)
      rw [nI_clamp (n := j) (by omega)] at hw
      refine lv_iconst (v := 0) hx hb d_X_query_26 (by decide) ?_
      exact x_iret hsz hx hb hr hlk hw (by have e := nI_clamp (n := j) (by omega); simp [qryX, c4, c14, e]) d_X_query_27
    · refine lv_iconst (v := (-1)) hx hb d_X_query_17 (by decide) ?_
      exact x_iret hsz hx hb hr hlk hw (by simp [qryX, c4, c14]) d_X_query_18)
set_option maxHeartbeats 4000000 in
set_option maxRecDepth 100000 in
theorem m_X_depth {l : Launch} {D : va_G} {g : Ids} {ad : Nat → Nat} {u : St} (n : Int32) : XMi l D g ad y_X_depth b_X_depth 2 ((some .int)) (rmN 0 0) [.ref (ad 0), .int n] u (fun v w => (v, w) = depX u n) := fun sz => x_met (by decide) (Nat.le_of_ble_eq_true rfl) (fun p e s m below meth c hsz hx hb hr hml hown ht hlk hw ls hl => by
  have hA : ∀ q, s.heap.size ≤ q → AX ad sz q := fun q h => Or.inr (hsz ▸ h)
  have hl : lv_has ls 2 [(0, .ref (ad 0)), (1, .int n)] := hl
  refine lv_iload_n hx hb d_X_depth_0 rfl (lv_at hl 1 rfl) ?_
  refine lv_iconst (v := 1) hx hb d_X_depth_1 (by decide) ?_
  refine lv_icmp_lt (tgt := 11) hx hb d_X_depth_2 (by decide) (fun c2 => ?_) (fun c2 => ?_)
  · refine lv_iconst (v := (-1)) hx hb d_X_depth_11 (by decide) ?_
    exact x_iret hsz hx hb hr hlk hw (by simp [depX, c2]) d_X_depth_12
  · refine lv_iload_n hx hb d_X_depth_5 rfl (lv_at hl 1 rfl) ?_
    refine lv_bipush (v := 16) hx hb d_X_depth_6 (by decide) ?_
    refine lv_icmp_le (tgt := 13) hx hb d_X_depth_8 (by decide) (fun c8 => ?_) (fun c8 => ?_)
    · refine lv_aload_n hx hb d_X_depth_13 rfl (lv_at hl 0 rfl) ?_
      refine lv_iload_n hx hb d_X_depth_14 rfl (lv_at hl 1 rfl) ?_
      refine x_puti (ci := 6) (k := 0) hx hb ht in_X t_X t_X_ok n_X hown hw (by decide) o_X rfl 8 (0) (by decide) (ht _ w_152) rfl (by decide +kernel) (Nat.le_of_ble_eq_true rfl) rfl rfl d_X_depth_15 (fun H locs hw => ?_)
      refine lv_iconst (v := 0) hx hb d_X_depth_18 (by decide) ?_
      exact x_iret hsz hx hb hr hlk hw (by simp [depX, c2, c8]) d_X_depth_19
    · refine lv_iconst (v := (-1)) hx hb d_X_depth_11 (by decide) ?_
      exact x_iret hsz hx hb hr hlk hw (by simp [depX, c2, c8]) d_X_depth_12)
set_option maxHeartbeats 4000000 in
set_option maxRecDepth 100000 in
theorem m_M_depth {l : Launch} {D : va_G} {g : Ids} {ad : Nat → Nat} {u : St} (n : Int32) : XMi l D g ad y_M_depth b_M_depth 2 ((some .int)) (rmN 0 0) [.ref (ad 75), .int n] u (fun v w => (v, w) = depM u n) := fun sz => x_met (by decide) (Nat.le_of_ble_eq_true rfl) (fun p e s m below meth c hsz hx hb hr hml hown ht hlk hw ls hl => by
  have hA : ∀ q, s.heap.size ≤ q → AX ad sz q := fun q h => Or.inr (hsz ▸ h)
  have hl : lv_has ls 2 [(0, .ref (ad 75)), (1, .int n)] := hl
  refine lv_iload_n hx hb d_M_depth_0 rfl (lv_at hl 1 rfl) ?_
  refine lv_iconst (v := 1) hx hb d_M_depth_1 (by decide) ?_
  refine lv_icmp_lt (tgt := 11) hx hb d_M_depth_2 (by decide) (fun c2 => ?_) (fun c2 => ?_)
  · refine lv_iconst (v := (-1)) hx hb d_M_depth_11 (by decide) ?_
    exact x_iret hsz hx hb hr hlk hw (by simp [depM, c2]) d_M_depth_12
  · refine lv_iload_n hx hb d_M_depth_5 rfl (lv_at hl 1 rfl) ?_
    refine lv_bipush (v := 16) hx hb d_M_depth_6 (by decide) ?_
    refine lv_icmp_le (tgt := 13) hx hb d_M_depth_8 (by decide) (fun c8 => ?_) (fun c8 => ?_)
    · refine lv_aload_n hx hb d_M_depth_13 rfl (lv_at hl 0 rfl) ?_
      refine lv_iload_n hx hb d_M_depth_14 rfl (lv_at hl 1 rfl) ?_
      refine x_puti (ci := 7) (k := 75) hx hb ht in_M t_M t_M_ok n_M hown hw (by decide) o_M rfl 5 (10) (by decide) (ht _ w_491) rfl (by decide +kernel) (Nat.le_of_ble_eq_true rfl) rfl rfl d_M_depth_15 (fun H locs hw => ?_)
      refine lv_iconst (v := 0) hx hb d_M_depth_18 (by decide) ?_
      exact x_iret hsz hx hb hr hlk hw (by simp [depM, c2, c8]) d_M_depth_19
    · refine lv_iconst (v := (-1)) hx hb d_M_depth_11 (by decide) ?_
      exact x_iret hsz hx hb hr hlk hw (by simp [depM, c2, c8]) d_M_depth_12)
set_option maxHeartbeats 4000000 in
set_option maxRecDepth 100000 in
theorem m_M_query {l : Launch} {D : va_G} {g : Ids} {ad : Nat → Nat} {u : St} (q : Int32) (x : Int32) : XMi l D g ad y_M_query b_M_query 3 ((some .int)) (rmN 1 21) [.ref (ad 75), .int q, .int x] u (fun v w => (v, w) = qryM u q x) := fun sz => x_met (by decide) (Nat.le_of_ble_eq_true rfl) (fun p e s m below meth c hsz hx hb hr hml hown ht hlk hw ls hl => by
  have hA : ∀ q, s.heap.size ≤ q → AX ad sz q := fun q h => Or.inr (hsz ▸ h)
  have hl : lv_has ls 3 [(0, .ref (ad 75)), (1, .int q), (2, .int x)] := hl
  refine lv_iload_n hx hb d_M_query_0 rfl (lv_at hl 1 rfl) ?_
  refine lv_bipush (v := 8) hx hb d_M_query_1 (by decide) ?_
  refine x_ci (x_runS (na := 2) (As := [.int q, .int 8]) (rest := []) ⟨hx, hb, hml, hown, ht⟩ (m_M_in q 8 _) w_554 w_555 w_9 w_556 (by decide +kernel) ⟨rfl, rfl, by decide, by decide⟩ hw rfl hl.1 rfl (Nat.le_of_ble_eq_true rfl) d_M_query_3 ⟨Nat.zero_le _, Nat.zero_le _⟩) hw hA (fun v3 u3 H locs hp hw => ?_)
  obtain ⟨hv9, hu⟩ := hp
  subst hv9
  have hu := hu.symm
  subst hu
  refine lv_if_eq (tgt := 19) hx hb d_M_query_6 (by decide) (fun c6 => ?_) (fun c6 => ?_)
  · refine lv_iconst (v := (-1)) hx hb d_M_query_19 (by decide) ?_
    exact x_iret hsz hx hb hr hlk hw (by simp [qryM, c6]) d_M_query_20
  · refine lv_iload_n hx hb d_M_query_9 rfl (lv_at hl 2 rfl) ?_
    refine lv_sipush (v := 4096) hx hb d_M_query_10 (by decide) ?_
    refine x_ci (x_runS (na := 2) (As := [.int x, .int 4096]) (rest := []) ⟨hx, hb, hml, hown, ht⟩ (m_M_in x 4096 _) w_554 w_555 w_9 w_556 (by decide +kernel) ⟨rfl, rfl, by decide, by decide⟩ hw rfl hl.1 rfl (Nat.le_of_ble_eq_true rfl) d_M_query_13 ⟨Nat.zero_le _, Nat.zero_le _⟩) hw hA (fun v13 u13 H locs hp hw => ?_)
    obtain ⟨hv9, hu⟩ := hp
    subst hv9
    have hu := hu.symm
    subst hu
    refine lv_if_ne (tgt := 21) hx hb d_M_query_16 (by decide) (fun c16 => ?_) (fun c16 => ?_)
    · obtain ⟨j, hj, rfl⟩ : ∃ j : Nat, j < 8 ∧ q = nI j := vp_in_of (in_in (N := 8) c6) (by decide)
      refine lv_aload_n hx hb d_M_query_21 rfl (lv_at hl 0 rfl) ?_
      refine x_get (ci := 7) (k := 75) hx hb ht in_M hown hw (by decide) o_M rfl 3 (by decide) (ht _ w_489) rfl d_M_query_22 ?_
      refine lv_iload_n hx hb d_M_query_25 rfl (lv_at hl 1 rfl) ?_
      refine lv_iload_n hx hb d_M_query_26 rfl (lv_at hl 2 rfl) ?_
      refine x_iast (k := 79) hx hb hw (by decide) rfl (vin (N := 8) (by omega) rfl (by omega)) d_M_query_27 (fun H locs hw => ?_)
      rw [nI_clamp (n := j) (by omega)] at hw
      refine lv_iconst (v := 0) hx hb d_M_query_28 (by decide) ?_
      exact x_iret hsz hx hb hr hlk hw (by have e := nI_clamp (n := j) (by omega); simp [qryM, c6, c16, e]) d_M_query_29
    · refine lv_iconst (v := (-1)) hx hb d_M_query_19 (by decide) ?_
      exact x_iret hsz hx hb hr hlk hw (by simp [qryM, c6, c16]) d_M_query_20)
set_option maxHeartbeats 4000000 in
set_option maxRecDepth 100000 in
theorem m_M_remove {l : Launch} {D : va_G} {g : Ids} {ad : Nat → Nat} {u : St} (d : Int32) : XMi l D g ad y_M_remove b_M_remove 2 ((some .int)) (rmN 2 42) [.ref (ad 75), .int d] u (fun v w => (v, w) = remM u d) := fun sz => x_met (by decide) (Nat.le_of_ble_eq_true rfl) (fun p e s m below meth c hsz hx hb hr hml hown ht hlk hw ls hl => by
  have hA : ∀ q, s.heap.size ≤ q → AX ad sz q := fun q h => Or.inr (hsz ▸ h)
  have hl : lv_has ls 2 [(0, .ref (ad 75)), (1, .int d)] := hl
  refine lv_aload_n hx hb d_M_remove_0 rfl (lv_at hl 0 rfl) ?_
  refine lv_iload_n hx hb d_M_remove_1 rfl (lv_at hl 1 rfl) ?_
  refine x_ci (x_runV (na := 1) (k := 75) (As := [.int d]) (rest := []) (ci := 7) ⟨hx, hb, hml, hown, ht⟩ (m_M_isThere d _) w_561 w_563 s_13 w_9 w_564 (by decide +kernel) ⟨rfl, rfl, by decide, by decide⟩ hw (by decide) o_M rfl rfl hl.1 rfl (Nat.le_of_ble_eq_true rfl) d_M_remove_2 ⟨Nat.zero_le _, Nat.zero_le _⟩) hw hA (fun v2 u2 H locs hp hw => ?_)
  obtain ⟨hv9, hu⟩ := hp
  subst hv9
  have hu := hu.symm
  subst hu
  refine lv_if_ne (tgt := 10) hx hb d_M_remove_5 (by decide) (fun c5 => ?_) (fun c5 => ?_)
  · obtain ⟨j, hj, rfl⟩ : ∃ j : Nat, j < 16 ∧ d = nI j := vp_in_of (isTh_in c5) (by decide)
    refine lv_aload_n hx hb d_M_remove_10 rfl (lv_at hl 0 rfl) ?_
    refine x_get (ci := 7) (k := 75) hx hb ht in_M hown hw (by decide) o_M rfl 0 (by decide) (ht _ w_486) rfl d_M_remove_11 ?_
    refine lv_iload_n hx hb d_M_remove_14 rfl (lv_at hl 1 rfl) ?_
    refine lv_iconst (v := 0) hx hb d_M_remove_15 (by decide) ?_
    refine x_zast (k := 76) hx hb hw (by decide) rfl (vin (N := 16) (by omega) rfl (by omega)) d_M_remove_16 (fun H locs hw => ?_)
    rw [nI_clamp (n := j) (by omega)] at hw
    rw [show (sI u 76 j (vp_nar .boolean 0)) = (sI u 76 j 0) from rfl] at hw
    refine lv_iconst (v := 0) hx hb d_M_remove_17 (by decide) ?_
    exact x_iret hsz hx hb hr hlk hw (by have e := nI_clamp (n := j) (by omega); simp [remM, c5, e]) d_M_remove_18
  · refine lv_iconst (v := (-1)) hx hb d_M_remove_8 (by decide) ?_
    exact x_iret hsz hx hb hr hlk hw (by simp [remM, c5]) d_M_remove_9)
set_option maxHeartbeats 4000000 in
set_option maxRecDepth 100000 in
theorem m_M_term {l : Launch} {D : va_G} {g : Ids} {ad : Nat → Nat} {u : St} (d : Int32) (k : Int32) (x : Int32) : XMi l D g ad y_M_term b_M_term 4 ((some .int)) (rmN 2 42) [.ref (ad 75), .int d, .int k, .int x] u (fun v w => (v, w) = termM u d k x) := fun sz => x_met (by decide) (Nat.le_of_ble_eq_true rfl) (fun p e s m below meth c hsz hx hb hr hml hown ht hlk hw ls hl => by
  have hA : ∀ q, s.heap.size ≤ q → AX ad sz q := fun q h => Or.inr (hsz ▸ h)
  have hl : lv_has ls 4 [(0, .ref (ad 75)), (1, .int d), (2, .int k), (3, .int x)] := hl
  refine lv_aload_n hx hb d_M_term_0 rfl (lv_at hl 0 rfl) ?_
  refine lv_iload_n hx hb d_M_term_1 rfl (lv_at hl 1 rfl) ?_
  refine x_ci (x_runV (na := 1) (k := 75) (As := [.int d]) (rest := []) (ci := 7) ⟨hx, hb, hml, hown, ht⟩ (m_M_isThere d _) w_561 w_563 s_13 w_9 w_564 (by decide +kernel) ⟨rfl, rfl, by decide, by decide⟩ hw (by decide) o_M rfl rfl hl.1 rfl (Nat.le_of_ble_eq_true rfl) d_M_term_2 ⟨Nat.zero_le _, Nat.zero_le _⟩) hw hA (fun v2 u2 H locs hp hw => ?_)
  obtain ⟨hv9, hu⟩ := hp
  subst hv9
  have hu := hu.symm
  subst hu
  refine lv_if_eq (tgt := 26) hx hb d_M_term_5 (by decide) (fun c5 => ?_) (fun c5 => ?_)
  · refine lv_iconst (v := (-1)) hx hb d_M_term_26 (by decide) ?_
    exact x_iret hsz hx hb hr hlk hw (by simp [termM, c5]) d_M_term_27
  · refine lv_iload_n hx hb d_M_term_8 rfl (lv_at hl 2 rfl) ?_
    refine lv_bipush (v := 12) hx hb d_M_term_9 (by decide) ?_
    refine x_ci (x_runS (na := 2) (As := [.int k, .int 12]) (rest := []) ⟨hx, hb, hml, hown, ht⟩ (m_M_in k 12 _) w_554 w_555 w_9 w_556 (by decide +kernel) ⟨rfl, rfl, by decide, by decide⟩ hw rfl hl.1 rfl (Nat.le_of_ble_eq_true rfl) d_M_term_11 ⟨Nat.zero_le _, Nat.zero_le _⟩) hw hA (fun v11 u11 H locs hp hw => ?_)
    obtain ⟨hv9, hu⟩ := hp
    subst hv9
    have hu := hu.symm
    subst hu
    refine lv_if_eq (tgt := 26) hx hb d_M_term_14 (by decide) (fun c14 => ?_) (fun c14 => ?_)
    · refine lv_iconst (v := (-1)) hx hb d_M_term_26 (by decide) ?_
      exact x_iret hsz hx hb hr hlk hw (by simp [termM, c5, c14]) d_M_term_27
    · refine lv_iload_n hx hb d_M_term_17 rfl (lv_at hl 3 rfl) ?_
      refine lv_bipush (v := 16) hx hb d_M_term_18 (by decide) ?_
      refine x_ci (x_runS (na := 2) (As := [.int x, .int 16]) (rest := []) ⟨hx, hb, hml, hown, ht⟩ (m_M_in x 16 _) w_554 w_555 w_9 w_556 (by decide +kernel) ⟨rfl, rfl, by decide, by decide⟩ hw rfl hl.1 rfl (Nat.le_of_ble_eq_true rfl) d_M_term_20 ⟨Nat.zero_le _, Nat.zero_le _⟩) hw hA (fun v20 u20 H locs hp hw => ?_)
      obtain ⟨hv9, hu⟩ := hp
      subst hv9
      have hu := hu.symm
      subst hu
      refine lv_if_ne (tgt := 28) hx hb d_M_term_23 (by decide) (fun c23 => ?_) (fun c23 => ?_)
      · obtain ⟨j, hj, rfl⟩ : ∃ j : Nat, j < 16 ∧ d = nI j := vp_in_of (isTh_in c5) (by decide)
        obtain ⟨i, hi, rfl⟩ : ∃ j : Nat, j < 12 ∧ k = nI j := vp_in_of (in_in (N := 12) c14) (by decide)
        refine lv_aload_n hx hb d_M_term_28 rfl (lv_at hl 0 rfl) ?_
        refine x_get (ci := 7) (k := 75) hx hb ht in_M hown hw (by decide) o_M rfl 2 (by decide) (ht _ w_488) rfl d_M_term_29 ?_
        refine lv_iload_n hx hb d_M_term_32 rfl (lv_at hl 1 rfl) ?_
        refine lv_bipush (v := 12) hx hb d_M_term_33 (by decide) ?_
        refine lv_imul hx hb d_M_term_35 ?_
        rw [show ((nI j) * 12) = (nI (j * 12)) from pk_mul _ _]
        refine lv_iload_n hx hb d_M_term_36 rfl (lv_at hl 2 rfl) ?_
        refine lv_iadd hx hb d_M_term_37 ?_
        rw [show ((nI (j * 12)) + (nI i)) = (nI (j * 12 + i)) from nI_add _ _]
        refine lv_iload_n hx hb d_M_term_38 rfl (lv_at hl 3 rfl) ?_
        refine x_iast (k := 78) hx hb hw (by decide) rfl (vin (N := 192) (by omega) rfl (by omega)) d_M_term_39 (fun H locs hw => ?_)
        rw [nI_clamp (n := j * 12 + i) (by omega)] at hw
        refine lv_iconst (v := 0) hx hb d_M_term_40 (by decide) ?_
        exact x_iret hsz hx hb hr hlk hw (by have e := nI_clamp (n := j) (by omega); have e2 := nI_clamp (n := i) (by omega); simp [termM, c5, c14, c23, e, e2]) d_M_term_41
      · refine lv_iconst (v := (-1)) hx hb d_M_term_26 (by decide) ?_
        exact x_iret hsz hx hb hr hlk hw (by simp [termM, c5, c14, c23]) d_M_term_27)
set_option maxHeartbeats 4000000 in
set_option maxRecDepth 100000 in
theorem m_M_document {l : Launch} {D : va_G} {g : Ids} {ad : Nat → Nat} {u : St} (d : Int32) (q : Int32) : XMi l D g ad y_M_document b_M_document 4 ((some .int)) (rmN 1 21) [.ref (ad 75), .int d, .int q] u (fun v w => (v, w) = docM u d q) := fun sz => x_met (by decide) (Nat.le_of_ble_eq_true rfl) (fun p e s m below meth c hsz hx hb hr hml hown ht hlk hw ls hl => by
  have hA : ∀ q, s.heap.size ≤ q → AX ad sz q := fun q h => Or.inr (hsz ▸ h)
  have hl : lv_has ls 4 [(0, .ref (ad 75)), (1, .int d), (2, .int q)] := hl
  refine lv_iload_n hx hb d_M_document_0 rfl (lv_at hl 1 rfl) ?_
  refine lv_bipush (v := 16) hx hb d_M_document_1 (by decide) ?_
  refine x_ci (x_runS (na := 2) (As := [.int d, .int 16]) (rest := []) ⟨hx, hb, hml, hown, ht⟩ (m_M_in d 16 _) w_554 w_555 w_9 w_556 (by decide +kernel) ⟨rfl, rfl, by decide, by decide⟩ hw rfl hl.1 rfl (Nat.le_of_ble_eq_true rfl) d_M_document_3 ⟨Nat.zero_le _, Nat.zero_le _⟩) hw hA (fun v3 u3 H locs hp hw => ?_)
  obtain ⟨hv9, hu⟩ := hp
  subst hv9
  have hu := hu.symm
  subst hu
  refine lv_if_eq (tgt := 18) hx hb d_M_document_6 (by decide) (fun c6 => ?_) (fun c6 => ?_)
  · refine lv_iconst (v := (-1)) hx hb d_M_document_18 (by decide) ?_
    exact x_iret hsz hx hb hr hlk hw (by simp [docM, c6]) d_M_document_19
  · refine lv_iload_n hx hb d_M_document_9 rfl (lv_at hl 2 rfl) ?_
    refine lv_bipush (v := 16) hx hb d_M_document_10 (by decide) ?_
    refine x_ci (x_runS (na := 2) (As := [.int q, .int 16]) (rest := []) ⟨hx, hb, hml, hown, ht⟩ (m_M_in q 16 _) w_554 w_555 w_9 w_556 (by decide +kernel) ⟨rfl, rfl, by decide, by decide⟩ hw rfl hl.1 rfl (Nat.le_of_ble_eq_true rfl) d_M_document_12 ⟨Nat.zero_le _, Nat.zero_le _⟩) hw hA (fun v12 u12 H locs hp hw => ?_)
    obtain ⟨hv9, hu⟩ := hp
    subst hv9
    have hu := hu.symm
    subst hu
    refine lv_if_ne (tgt := 20) hx hb d_M_document_15 (by decide) (fun c15 => ?_) (fun c15 => ?_)
    · obtain ⟨j, hj, rfl⟩ : ∃ j : Nat, j < 16 ∧ d = nI j := vp_in_of (in_in (N := 16) c6) (by decide)
      refine lv_aload_n hx hb d_M_document_20 rfl (lv_at hl 0 rfl) ?_
      refine x_get (ci := 7) (k := 75) hx hb ht in_M hown hw (by decide) o_M rfl 0 (by decide) (ht _ w_486) rfl d_M_document_21 ?_
      refine lv_iload_n hx hb d_M_document_24 rfl (lv_at hl 1 rfl) ?_
      refine lv_iconst (v := 1) hx hb d_M_document_25 (by decide) ?_
      refine x_zast (k := 76) hx hb hw (by decide) rfl (vin (N := 16) (by omega) rfl (by omega)) d_M_document_26 (fun H locs hw => ?_)
      rw [nI_clamp (n := j) (by omega)] at hw
      rw [show (sI u 76 j (vp_nar .boolean 1)) = (sI u 76 j 1) from rfl] at hw
      refine lv_aload_n hx hb d_M_document_27 rfl (lv_at hl 0 rfl) ?_
      refine x_get (ci := 7) (k := 75) hx hb ht in_M hown hw (by decide) o_M rfl 1 (by decide) (ht _ w_487) rfl d_M_document_28 ?_
      refine lv_iload_n hx hb d_M_document_31 rfl (lv_at hl 1 rfl) ?_
      refine lv_iload_n hx hb d_M_document_32 rfl (lv_at hl 2 rfl) ?_
      refine x_iast (k := 77) hx hb hw (by decide) rfl (vin (N := 16) (by omega) rfl (by omega)) d_M_document_33 (fun H locs hw => ?_)
      rw [nI_clamp (n := j) (by omega)] at hw
      refine lv_iconst (v := 0) hx hb d_M_document_34 (by decide) ?_
      refine lv_istore_n (lv' := [(3, .int 0), (0, .ref (ad 75)), (1, .int (nI j)), (2, .int q)]) hx hb d_M_document_35 rfl hl (by decide) rfl (fun ls hl => ?_)
      have L36 : ∀ (n36 : Nat) (t : Nat), t ≤ 12 → 12 - t < n36 → ∀ (H : Heap) (locs : List Loc), XH D g ad (AX ad sz) s s.heap H locs (clrF (sI (sI u 76 j 1) 77 j q) (j * 12) t) → ∀ ls : Array Slot, lv_has ls 4 [(3, .int (nI t)), (0, .ref (ad 75)), (1, .int (nI j)), (2, .int q)] → W p l e (rmN 1 21) s m ([.ref (ad 75), .int (nI j), .int q] : List Value).toArray below meth c H locs 0 0 (MQ below (va_Qi (fun v w => (v, w) = docM u (nI j) q) (XB D g ad sz) (AX ad sz)) ([.ref (ad 75), .int (nI j), .int q] : List Value).toArray s 0 0 (AX ad sz)) (F0 m 36 ls []) := by
        intro n36
        induction n36 with
        | zero => intro t h1 hz; exact absurd hz (by omega)
        | succ n36 ih36 =>
          intro t h1 hnL36 H locs hw ls hl
          refine lv_iload_n hx hb d_M_document_36 rfl (lv_at hl 0 rfl) ?_
          refine lv_bipush (v := 12) hx hb d_M_document_37 (by decide) ?_
          refine lv_icmp_ge (tgt := 60) hx hb d_M_document_39 (by decide) (fun c39 => ?_) (fun c39 => ?_)
          · have h39 : (12) ≤ (t) := (nI_leI (a := 12) (b := t) (by omega) (by omega)).mp c39
            refine lv_iconst (v := 0) hx hb d_M_document_60 (by decide) ?_
            exact x_iret hsz hx hb hr hlk hw (by have e := nI_clamp (n := j) (by omega); rw [show t = 12 by omega]; simp [docM, c6, c15, c39, e]) d_M_document_61
          · have h39 : ¬ (12) ≤ (t) := fun hz9 => c39 ((nI_leI (a := 12) (b := t) (by omega) (by omega)).mpr hz9)
            refine lv_aload_n hx hb d_M_document_42 rfl (lv_at hl 1 rfl) ?_
            refine x_get (ci := 7) (k := 75) hx hb ht in_M hown hw (by decide) o_M rfl 2 (by decide) (ht _ w_488) rfl d_M_document_43 ?_
            refine lv_iload_n hx hb d_M_document_46 rfl (lv_at hl 2 rfl) ?_
            refine lv_bipush (v := 12) hx hb d_M_document_47 (by decide) ?_
            refine lv_imul hx hb d_M_document_49 ?_
            rw [show ((nI j) * 12) = (nI (j * 12)) from pk_mul _ _]
            refine lv_iload_n hx hb d_M_document_50 rfl (lv_at hl 0 rfl) ?_
            refine lv_iadd hx hb d_M_document_51 ?_
            rw [show ((nI (j * 12)) + (nI t)) = (nI (j * 12 + t)) from nI_add _ _]
            refine lv_iconst (v := 0) hx hb d_M_document_52 (by decide) ?_
            refine x_iast (k := 78) hx hb hw (by decide) rfl (vin (N := 192) (by omega) rfl (by omega)) d_M_document_53 (fun H locs hw => ?_)
            rw [nI_clamp (n := j * 12 + t) (by omega)] at hw
            refine lv_iinc (v := (nI (t + 1))) (lv' := [(3, .int (nI (t + 1))), (0, .ref (ad 75)), (1, .int (nI j)), (2, .int q)]) hx hb d_M_document_54 hl (k := 0) rfl (nI_1 _) (by decide) rfl (fun ls hl => ?_)
            refine lv_goto (tgt := 36) hx hb d_M_document_57 (by decide) ?_
            exact ih36 (t + 1) (by omega) (by omega) _ _ hw ls (lv_sub hl [0, 1, 2, 3] rfl)
      exact L36 ((12 - 0) + 1) (0) (by omega) (by omega) _ _ hw ls (lv_sub hl [0, 1, 2, 3] rfl)
    · refine lv_iconst (v := (-1)) hx hb d_M_document_18 (by decide) ?_
      exact x_iret hsz hx hb hr hlk hw (by simp [docM, c6, c15]) d_M_document_19)
set_option maxHeartbeats 4000000 in
set_option maxRecDepth 100000 in
theorem m_M_judgements {l : Launch} {D : va_G} {g : Ids} {ad : Nat → Nat} {u : St} : XMi l D g ad y_M_judgements b_M_judgements 3 ((some .int)) (rmN 0 0) [.ref (ad 75)] u (fun v w => v = posF (u.1 80) 128 ∧ w = u) := fun sz => x_met (by decide) (Nat.le_of_ble_eq_true rfl) (fun p e s m below meth c hsz hx hb hr hml hown ht hlk hw ls hl => by
  have hA : ∀ q, s.heap.size ≤ q → AX ad sz q := fun q h => Or.inr (hsz ▸ h)
  have hl : lv_has ls 3 [(0, .ref (ad 75))] := hl
  refine lv_iconst (v := 0) hx hb d_M_judgements_0 (by decide) ?_
  refine lv_istore_n (lv' := [(1, .int 0), (0, .ref (ad 75))]) hx hb d_M_judgements_1 rfl hl (by decide) rfl (fun ls hl => ?_)
  refine lv_iconst (v := 0) hx hb d_M_judgements_2 (by decide) ?_
  refine lv_istore_n (lv' := [(2, .int 0), (1, .int 0), (0, .ref (ad 75))]) hx hb d_M_judgements_3 rfl hl (by decide) rfl (fun ls hl => ?_)
  have L4 : ∀ (n4 : Nat) (t : Nat), t ≤ 128 → 128 - t < n4 → ∀ (H : Heap) (locs : List Loc), XH D g ad (AX ad sz) s s.heap H locs u → ∀ ls : Array Slot, lv_has ls 3 [(2, .int (nI t)), (1, .int (posF (u.1 80) t)), (0, .ref (ad 75))] → W p l e (rmN 0 0) s m ([.ref (ad 75)] : List Value).toArray below meth c H locs 0 0 (MQ below (va_Qi (fun v w => v = posF (u.1 80) 128 ∧ w = u) (XB D g ad sz) (AX ad sz)) ([.ref (ad 75)] : List Value).toArray s 0 0 (AX ad sz)) (F0 m 4 ls []) := by
    intro n4
    induction n4 with
    | zero => intro t h1 hz; exact absurd hz (by omega)
    | succ n4 ih4 =>
      intro t h1 hnL4 H locs hw ls hl
      refine lv_iload_n hx hb d_M_judgements_4 rfl (lv_at hl 0 rfl) ?_
      refine lv_sipush (v := 128) hx hb d_M_judgements_5 (by decide) ?_
      refine lv_icmp_ge (tgt := 29) hx hb d_M_judgements_8 (by decide) (fun c8 => ?_) (fun c8 => ?_)
      · have h8 : (128) ≤ (t) := (nI_leI (a := 128) (b := t) (by omega) (by omega)).mp c8
        refine lv_iload_n hx hb d_M_judgements_29 rfl (lv_at hl 1 rfl) ?_
        exact x_iret hsz hx hb hr hlk hw ⟨by rw [show t = 128 by omega], rfl⟩ d_M_judgements_30
      · have h8 : ¬ (128) ≤ (t) := fun hz9 => c8 ((nI_leI (a := 128) (b := t) (by omega) (by omega)).mpr hz9)
        refine lv_aload_n hx hb d_M_judgements_11 rfl (lv_at hl 2 rfl) ?_
        refine x_get (ci := 7) (k := 75) hx hb ht in_M hown hw (by decide) o_M rfl 4 (by decide) (ht _ w_490) rfl d_M_judgements_12 ?_
        refine lv_iload_n hx hb d_M_judgements_15 rfl (lv_at hl 0 rfl) ?_
        refine x_iald (k := 80) hx hb hw (by decide) rfl (vin (N := 128) (by omega) rfl (by omega)) d_M_judgements_16 ?_
        rw [nI_clamp (n := t) (by omega)]
        refine lv_if_lt (tgt := 23) hx hb d_M_judgements_17 (by decide) (fun c17 => ?_) (fun c17 => ?_)
        · refine lv_iinc (v := (nI (t + 1))) (lv' := [(2, .int (nI (t + 1))), (1, .int (posF (u.1 80) t)), (0, .ref (ad 75))]) hx hb d_M_judgements_23 hl (k := 0) rfl (nI_1 _) (by decide) rfl (fun ls hl => ?_)
          refine lv_goto (tgt := 4) hx hb d_M_judgements_26 (by decide) ?_
          exact ih4 (t + 1) (by omega) (by omega) _ _ hw ls (by rw [← (show (posF (u.1 80) t) = (posF (u.1 80) (t + 1)) from (by simp only [posF]; first | rw [if_pos c17] | rw [if_neg c17]))]; exact lv_sub hl [0, 1, 2] rfl)
        · refine lv_iinc (v := ((posF (u.1 80) t) + 1)) (lv' := [(1, .int ((posF (u.1 80) t) + 1)), (2, .int (nI t)), (0, .ref (ad 75))]) hx hb d_M_judgements_20 hl (k := 1) rfl rfl (by decide) rfl (fun ls hl => ?_)
          refine lv_iinc (v := (nI (t + 1))) (lv' := [(2, .int (nI (t + 1))), (1, .int ((posF (u.1 80) t) + 1)), (0, .ref (ad 75))]) hx hb d_M_judgements_23 hl (k := 1) rfl (nI_1 _) (by decide) rfl (fun ls hl => ?_)
          refine lv_goto (tgt := 4) hx hb d_M_judgements_26 (by decide) ?_
          exact ih4 (t + 1) (by omega) (by omega) _ _ hw ls (by rw [← (show ((posF (u.1 80) t) + 1) = (posF (u.1 80) (t + 1)) from (by simp only [posF]; first | rw [if_pos c17] | rw [if_neg c17]))]; exact lv_sub hl [0, 1, 2] rfl)
  exact L4 ((128 - 0) + 1) (0) (by omega) (by omega) _ _ hw ls (lv_sub hl [0, 1, 2] rfl))
set_option maxHeartbeats 4000000 in
set_option maxRecDepth 100000 in
theorem m_M_judge {l : Launch} {D : va_G} {g : Ids} {ad : Nat → Nat} {u : St} (q : Int32) (d : Int32) (x : Int32) : XMi l D g ad y_M_judge b_M_judge 5 ((some .int)) (rmN 1 22) [.ref (ad 75), .int q, .int d, .int x] u (fun v w => (v, w) = judM u q d x) := fun sz => x_met (by decide) (Nat.le_of_ble_eq_true rfl) (fun p e s m below meth c hsz hx hb hr hml hown ht hlk hw ls hl => by
  have hA : ∀ q, s.heap.size ≤ q → AX ad sz q := fun q h => Or.inr (hsz ▸ h)
  have hl : lv_has ls 5 [(0, .ref (ad 75)), (1, .int q), (2, .int d), (3, .int x)] := hl
  refine lv_iload_n hx hb d_M_judge_0 rfl (lv_at hl 1 rfl) ?_
  refine lv_bipush (v := 8) hx hb d_M_judge_1 (by decide) ?_
  refine x_ci (x_runS (na := 2) (As := [.int q, .int 8]) (rest := []) ⟨hx, hb, hml, hown, ht⟩ (m_M_in q 8 _) w_554 w_555 w_9 w_556 (by decide +kernel) ⟨rfl, rfl, by decide, by decide⟩ hw rfl hl.1 rfl (Nat.le_of_ble_eq_true rfl) d_M_judge_3 ⟨Nat.zero_le _, Nat.zero_le _⟩) hw hA (fun v3 u3 H locs hp hw => ?_)
  obtain ⟨hv9, hu⟩ := hp
  subst hv9
  have hu := hu.symm
  subst hu
  refine lv_if_eq (tgt := 29) hx hb d_M_judge_6 (by decide) (fun c6 => ?_) (fun c6 => ?_)
  · refine lv_iconst (v := (-1)) hx hb d_M_judge_29 (by decide) ?_
    exact x_iret hsz hx hb hr hlk hw (by simp [judM, c6]) d_M_judge_30
  · refine lv_iload_n hx hb d_M_judge_9 rfl (lv_at hl 2 rfl) ?_
    refine lv_bipush (v := 16) hx hb d_M_judge_10 (by decide) ?_
    refine x_ci (x_runS (na := 2) (As := [.int d, .int 16]) (rest := []) ⟨hx, hb, hml, hown, ht⟩ (m_M_in d 16 _) w_554 w_555 w_9 w_556 (by decide +kernel) ⟨rfl, rfl, by decide, by decide⟩ hw rfl hl.1 rfl (Nat.le_of_ble_eq_true rfl) d_M_judge_12 ⟨Nat.zero_le _, Nat.zero_le _⟩) hw hA (fun v12 u12 H locs hp hw => ?_)
    obtain ⟨hv9, hu⟩ := hp
    subst hv9
    have hu := hu.symm
    subst hu
    refine lv_if_eq (tgt := 29) hx hb d_M_judge_15 (by decide) (fun c15 => ?_) (fun c15 => ?_)
    · refine lv_iconst (v := (-1)) hx hb d_M_judge_29 (by decide) ?_
      exact x_iret hsz hx hb hr hlk hw (by simp [judM, c6, c15]) d_M_judge_30
    · refine lv_iload_n hx hb d_M_judge_18 rfl (lv_at hl 3 rfl) ?_
      refine lv_iconst (v := (-1)) hx hb d_M_judge_19 (by decide) ?_
      refine lv_icmp_lt (tgt := 29) hx hb d_M_judge_20 (by decide) (fun c20 => ?_) (fun c20 => ?_)
      · refine lv_iconst (v := (-1)) hx hb d_M_judge_29 (by decide) ?_
        exact x_iret hsz hx hb hr hlk hw (by simp [judM, c6, c15, c20]) d_M_judge_30
      · refine lv_iload_n hx hb d_M_judge_23 rfl (lv_at hl 3 rfl) ?_
        refine lv_bipush (v := 7) hx hb d_M_judge_24 (by decide) ?_
        refine lv_icmp_le (tgt := 31) hx hb d_M_judge_26 (by decide) (fun c26 => ?_) (fun c26 => ?_)
        · obtain ⟨i, hi, rfl⟩ : ∃ j : Nat, j < 8 ∧ q = nI j := vp_in_of (in_in (N := 8) c6) (by decide)
          obtain ⟨j, hj, rfl⟩ : ∃ j : Nat, j < 16 ∧ d = nI j := vp_in_of (in_in (N := 16) c15) (by decide)
          refine lv_iload_n hx hb d_M_judge_31 rfl (lv_at hl 1 rfl) ?_
          refine lv_bipush (v := 16) hx hb d_M_judge_32 (by decide) ?_
          refine lv_imul hx hb d_M_judge_34 ?_
          rw [show ((nI i) * 16) = (nI (i * 16)) from pk_mul _ _]
          refine lv_iload_n hx hb d_M_judge_35 rfl (lv_at hl 2 rfl) ?_
          refine lv_iadd hx hb d_M_judge_36 ?_
          rw [show ((nI (i * 16)) + (nI j)) = (nI (i * 16 + j)) from nI_add _ _]
          refine lv_istore (lv' := [(4, .int (nI (i * 16 + j))), (0, .ref (ad 75)), (1, .int (nI i)), (2, .int (nI j)), (3, .int x)]) hx hb d_M_judge_37 hl (by decide) rfl (fun ls hl => ?_)
          refine lv_aload_n hx hb d_M_judge_39 rfl (lv_at hl 1 rfl) ?_
          refine x_get (ci := 7) (k := 75) hx hb ht in_M hown hw (by decide) o_M rfl 4 (by decide) (ht _ w_490) rfl d_M_judge_40 ?_
          refine lv_iload hx hb d_M_judge_43 (lv_at hl 0 rfl) ?_
          refine x_iald (k := 80) hx hb hw (by decide) rfl (vin (N := 128) (by omega) rfl (by omega)) d_M_judge_45 ?_
          rw [nI_clamp (n := i * 16 + j) (by omega)]
          refine lv_if_ge (tgt := 65) hx hb d_M_judge_46 (by decide) (fun c46 => ?_) (fun c46 => ?_)
          · refine lv_aload_n hx hb d_M_judge_65 rfl (lv_at hl 1 rfl) ?_
            refine x_get (ci := 7) (k := 75) hx hb ht in_M hown hw (by decide) o_M rfl 4 (by decide) (ht _ w_490) rfl d_M_judge_66 ?_
            refine lv_iload hx hb d_M_judge_69 (lv_at hl 0 rfl) ?_
            refine lv_iload_n hx hb d_M_judge_71 rfl (lv_at hl 4 rfl) ?_
            refine x_iast (k := 80) hx hb hw (by decide) rfl (vin (N := 128) (by omega) rfl (by omega)) d_M_judge_72 (fun H locs hw => ?_)
            rw [nI_clamp (n := i * 16 + j) (by omega)] at hw
            refine lv_iconst (v := 0) hx hb d_M_judge_73 (by decide) ?_
            exact x_iret hsz hx hb hr hlk hw (by have e := nI_clamp (n := i) (by omega); have e2 := nI_clamp (n := j) (by omega); simp [judM, c6, c15, c20, c26, c46, e, e2]) d_M_judge_74
          · refine lv_iload_n hx hb d_M_judge_49 rfl (lv_at hl 4 rfl) ?_
            refine lv_if_lt (tgt := 65) hx hb d_M_judge_50 (by decide) (fun c50 => ?_) (fun c50 => ?_)
            · refine lv_aload_n hx hb d_M_judge_65 rfl (lv_at hl 1 rfl) ?_
              refine x_get (ci := 7) (k := 75) hx hb ht in_M hown hw (by decide) o_M rfl 4 (by decide) (ht _ w_490) rfl d_M_judge_66 ?_
              refine lv_iload hx hb d_M_judge_69 (lv_at hl 0 rfl) ?_
              refine lv_iload_n hx hb d_M_judge_71 rfl (lv_at hl 4 rfl) ?_
              refine x_iast (k := 80) hx hb hw (by decide) rfl (vin (N := 128) (by omega) rfl (by omega)) d_M_judge_72 (fun H locs hw => ?_)
              rw [nI_clamp (n := i * 16 + j) (by omega)] at hw
              refine lv_iconst (v := 0) hx hb d_M_judge_73 (by decide) ?_
              exact x_iret hsz hx hb hr hlk hw (by have e := nI_clamp (n := i) (by omega); have e2 := nI_clamp (n := j) (by omega); simp [judM, c6, c15, c20, c26, c46, c50, e, e2]) d_M_judge_74
            · refine lv_aload_n hx hb d_M_judge_53 rfl (lv_at hl 1 rfl) ?_
              refine x_ci (x_runV (na := 0) (k := 75) (As := []) (rest := []) (ci := 7) ⟨hx, hb, hml, hown, ht⟩ (m_M_judgements _) w_577 w_579 s_14 w_9 w_580 (by decide +kernel) ⟨rfl, rfl, by decide, by decide⟩ hw (by decide) o_M rfl rfl hl.1 rfl (Nat.le_of_ble_eq_true rfl) d_M_judge_54 ⟨Nat.zero_le _, Nat.zero_le _⟩) hw hA (fun v54 u54 H locs hp hw => ?_)
              obtain ⟨hv9, hu⟩ := hp
              subst hv9
              have hu := hu.symm
              subst hu
              refine lv_bipush (v := 16) hx hb d_M_judge_57 (by decide) ?_
              refine lv_icmp_ne (tgt := 65) hx hb d_M_judge_59 (by decide) (fun c59 => ?_) (fun c59 => ?_)
              · refine lv_aload_n hx hb d_M_judge_65 rfl (lv_at hl 1 rfl) ?_
                refine x_get (ci := 7) (k := 75) hx hb ht in_M hown hw (by decide) o_M rfl 4 (by decide) (ht _ w_490) rfl d_M_judge_66 ?_
                refine lv_iload hx hb d_M_judge_69 (lv_at hl 0 rfl) ?_
                refine lv_iload_n hx hb d_M_judge_71 rfl (lv_at hl 4 rfl) ?_
                refine x_iast (k := 80) hx hb hw (by decide) rfl (vin (N := 128) (by omega) rfl (by omega)) d_M_judge_72 (fun H locs hw => ?_)
                rw [nI_clamp (n := i * 16 + j) (by omega)] at hw
                refine lv_iconst (v := 0) hx hb d_M_judge_73 (by decide) ?_
                exact x_iret hsz hx hb hr hlk hw (by have e := nI_clamp (n := i) (by omega); have e2 := nI_clamp (n := j) (by omega); simp [judM, c6, c15, c20, c26, c46, c50, c59, e, e2]) d_M_judge_74
              · refine lv_bipush (v := (-2)) hx hb d_M_judge_62 (by decide) ?_
                exact x_iret hsz hx hb hr hlk hw (by have e := nI_clamp (n := i) (by omega); have e2 := nI_clamp (n := j) (by omega); simp [judM, c6, c15, c20, c26, c46, c50, c59, e, e2]) d_M_judge_64
        · refine lv_iconst (v := (-1)) hx hb d_M_judge_29 (by decide) ?_
          exact x_iret hsz hx hb hr hlk hw (by simp [judM, c6, c15, c20, c26]) d_M_judge_30)
set_option maxHeartbeats 4000000 in
set_option maxRecDepth 100000 in
theorem m_X_judge {l : Launch} {D : va_G} {g : Ids} {ad : Nat → Nat} {u : St} (q : Int32) (d : Int32) (x : Int32) : XMi l D g ad y_X_judge b_X_judge 6 ((some .int)) (rmN 2 41) [.ref (ad 0), .int q, .int d, .int x] u (fun v w => (v, w) = judX u q d x) := fun sz => x_met (by decide) (Nat.le_of_ble_eq_true rfl) (fun p e s m below meth c hsz hx hb hr hml hown ht hlk hw ls hl => by
  have hA : ∀ q, s.heap.size ≤ q → AX ad sz q := fun q h => Or.inr (hsz ▸ h)
  have hl : lv_has ls 6 [(0, .ref (ad 0)), (1, .int q), (2, .int d), (3, .int x)] := hl
  refine lv_iload_n hx hb d_X_judge_0 rfl (lv_at hl 3 rfl) ?_
  refine lv_iconst (v := (-1)) hx hb d_X_judge_1 (by decide) ?_
  refine lv_icmp_eq (tgt := 14) hx hb d_X_judge_2 (by decide) (fun c2 => ?_) (fun c2 => ?_)
  · refine lv_iconst (v := 1) hx hb d_X_judge_14 (by decide) ?_
    refine lv_goto (tgt := 19) hx hb d_X_judge_15 (by decide) ?_
    refine lv_istore (lv' := [(4, .int 1), (0, .ref (ad 0)), (1, .int q), (2, .int d), (3, .int x)]) hx hb d_X_judge_19 hl (by decide) rfl (fun ls hl => ?_)
    refine lv_iload_n hx hb d_X_judge_21 rfl (lv_at hl 2 rfl) ?_
    refine x_ci (x_runS (na := 1) (As := [.int q]) (rest := []) ⟨hx, hb, hml, hown, ht⟩ (m_X_isQuery q _) w_209 w_210 w_1 w_211 (by decide +kernel) ⟨rfl, rfl, by decide, by decide⟩ hw rfl hl.1 rfl (Nat.le_of_ble_eq_true rfl) d_X_judge_22 ⟨Nat.zero_le _, Nat.zero_le _⟩) hw hA (fun v22 u22 H locs hp hw => ?_)
    obtain ⟨hv9, hu⟩ := hp
    subst hv9
    have hu := hu.symm
    subst hu
    refine lv_if_eq (tgt := 42) hx hb d_X_judge_25 (by decide) (fun c25 => ?_) (fun c25 => ?_)
    · refine lv_iconst (v := (-1)) hx hb d_X_judge_42 (by decide) ?_
      exact x_iret hsz hx hb hr hlk hw (by simp_all [judX]) d_X_judge_43
    · refine lv_iload_n hx hb d_X_judge_28 rfl (lv_at hl 3 rfl) ?_
      refine lv_bipush (v := 15) hx hb d_X_judge_29 (by decide) ?_
      refine x_ci (x_runS (na := 2) (As := [.int d, .int 15]) (rest := []) ⟨hx, hb, hml, hown, ht⟩ (m_X_within d 15 _) w_176 w_177 w_1 w_178 (by decide +kernel) ⟨rfl, rfl, by decide, by decide⟩ hw rfl hl.1 rfl (Nat.le_of_ble_eq_true rfl) d_X_judge_31 ⟨Nat.zero_le _, Nat.zero_le _⟩) hw hA (fun v31 u31 H locs hp hw => ?_)
      obtain ⟨hv9, hu⟩ := hp
      subst hv9
      have hu := hu.symm
      subst hu
      refine lv_if_eq (tgt := 42) hx hb d_X_judge_34 (by decide) (fun c34 => ?_) (fun c34 => ?_)
      · refine lv_iconst (v := (-1)) hx hb d_X_judge_42 (by decide) ?_
        exact x_iret hsz hx hb hr hlk hw (by simp_all [judX]) d_X_judge_43
      · refine lv_iload hx hb d_X_judge_37 (lv_at hl 0 rfl) ?_
        refine lv_if_ne (tgt := 44) hx hb d_X_judge_39 (by decide) (fun c39 => ?_) (fun c39 => ?_)
        · obtain ⟨i, hi, rfl⟩ : ∃ j : Nat, j < 8 ∧ q = nI j := vp_in_of (within_in (N := 8) c25) (by decide)
          obtain ⟨j, hj, rfl⟩ : ∃ j : Nat, j < 16 ∧ d = nI j := vp_in_of (within_in (N := 16) c34) (by decide)
          refine lv_iload_n hx hb d_X_judge_44 rfl (lv_at hl 4 rfl) ?_
          refine lv_iconst (v := (-1)) hx hb d_X_judge_45 (by decide) ?_
          refine lv_icmp_eq (tgt := 66) hx hb d_X_judge_46 (by decide) (fun c46 => ?_) (fun c46 => ?_)
          · refine lv_iconst (v := 0) hx hb d_X_judge_66 (by decide) ?_
            refine lv_istore (lv' := [(5, .int 0), (4, .int 1), (0, .ref (ad 0)), (1, .int (nI i)), (2, .int (nI j)), (3, .int x)]) hx hb d_X_judge_67 hl (by decide) rfl (fun ls hl => ?_)
            refine lv_iload hx hb d_X_judge_69 (lv_at hl 0 rfl) ?_
            refine lv_if_eq (tgt := 89) hx hb d_X_judge_71 (by decide) (fun c71 => ?_) (fun c71 => ?_)
            · refine lv_aload_n hx hb d_X_judge_89 rfl (lv_at hl 2 rfl) ?_
              refine x_get (ci := 6) (k := 0) hx hb ht in_X hown hw (by decide) o_X rfl 2 (by decide) (ht _ w_146) rfl d_X_judge_90 ?_
              refine lv_iload_n hx hb d_X_judge_93 rfl (lv_at hl 3 rfl) ?_
              refine lv_iload_n hx hb d_X_judge_94 rfl (lv_at hl 4 rfl) ?_
              refine lv_iload_n hx hb d_X_judge_95 rfl (lv_at hl 5 rfl) ?_
              refine x_cv (x_runV (na := 3) (k := 3) (As := [.int (nI i), .int (nI j), .int x]) (rest := []) (ci := 2) ⟨hx, hb, hml, hown, ht⟩ (m_Ju_set i j x hi hj _) w_224 w_225 w_226 w_3 w_227 (by decide +kernel) ⟨rfl, rfl, by decide, by decide⟩ hw (by decide) o_Ju rfl rfl hl.1 rfl (Nat.le_of_ble_eq_true rfl) d_X_judge_96 ⟨Nat.zero_le _, Nat.zero_le _⟩) hw hA (fun u96 H locs hp hw => ?_)
              have hu := hp.symm
              subst hu
              refine lv_iconst (v := 0) hx hb d_X_judge_99 (by decide) ?_
              exact x_iret hsz hx hb hr hlk hw (by have e := nI_clamp (n := i) (by omega); have e2 := nI_clamp (n := j) (by omega); simp_all [judX]) d_X_judge_100
            · refine lv_aload_n hx hb d_X_judge_74 rfl (lv_at hl 2 rfl) ?_
              refine x_get (ci := 6) (k := 0) hx hb ht in_X hown hw (by decide) o_X rfl 2 (by decide) (ht _ w_146) rfl d_X_judge_75 ?_
              refine x_ci (x_runV (na := 0) (k := 3) (As := []) (rest := []) (ci := 2) ⟨hx, hb, hml, hown, ht⟩ (m_Ju_number _) w_220 w_221 w_222 w_3 w_223 (by decide +kernel) ⟨rfl, rfl, by decide, by decide⟩ hw (by decide) o_Ju rfl rfl hl.1 rfl (Nat.le_of_ble_eq_true rfl) d_X_judge_78 ⟨Nat.zero_le _, Nat.zero_le _⟩) hw hA (fun v78 u78 H locs hp hw => ?_)
              obtain ⟨hv9, hu⟩ := hp
              subst hv9
              have hu := hu.symm
              subst hu
              refine lv_bipush (v := 16) hx hb d_X_judge_81 (by decide) ?_
              refine lv_icmp_lt (tgt := 89) hx hb d_X_judge_83 (by decide) (fun c83 => ?_) (fun c83 => ?_)
              · refine lv_aload_n hx hb d_X_judge_89 rfl (lv_at hl 2 rfl) ?_
                refine x_get (ci := 6) (k := 0) hx hb ht in_X hown hw (by decide) o_X rfl 2 (by decide) (ht _ w_146) rfl d_X_judge_90 ?_
                refine lv_iload_n hx hb d_X_judge_93 rfl (lv_at hl 3 rfl) ?_
                refine lv_iload_n hx hb d_X_judge_94 rfl (lv_at hl 4 rfl) ?_
                refine lv_iload_n hx hb d_X_judge_95 rfl (lv_at hl 5 rfl) ?_
                refine x_cv (x_runV (na := 3) (k := 3) (As := [.int (nI i), .int (nI j), .int x]) (rest := []) (ci := 2) ⟨hx, hb, hml, hown, ht⟩ (m_Ju_set i j x hi hj _) w_224 w_225 w_226 w_3 w_227 (by decide +kernel) ⟨rfl, rfl, by decide, by decide⟩ hw (by decide) o_Ju rfl rfl hl.1 rfl (Nat.le_of_ble_eq_true rfl) d_X_judge_96 ⟨Nat.zero_le _, Nat.zero_le _⟩) hw hA (fun u96 H locs hp hw => ?_)
                have hu := hp.symm
                subst hu
                refine lv_iconst (v := 0) hx hb d_X_judge_99 (by decide) ?_
                exact x_iret hsz hx hb hr hlk hw (by have e := nI_clamp (n := i) (by omega); have e2 := nI_clamp (n := j) (by omega); simp_all [judX]) d_X_judge_100
              · refine lv_bipush (v := (-2)) hx hb d_X_judge_86 (by decide) ?_
                exact x_iret hsz hx hb hr hlk hw (by have e := nI_clamp (n := i) (by omega); have e2 := nI_clamp (n := j) (by omega); simp_all [judX]) d_X_judge_88
          · refine lv_aload_n hx hb d_X_judge_49 rfl (lv_at hl 1 rfl) ?_
            refine x_get (ci := 6) (k := 0) hx hb ht in_X hown hw (by decide) o_X rfl 2 (by decide) (ht _ w_146) rfl d_X_judge_50 ?_
            refine lv_iload_n hx hb d_X_judge_53 rfl (lv_at hl 2 rfl) ?_
            refine lv_iload_n hx hb d_X_judge_54 rfl (lv_at hl 3 rfl) ?_
            refine x_ci (x_runV (na := 2) (k := 3) (As := [.int (nI i), .int (nI j)]) (rest := []) (ci := 2) ⟨hx, hb, hml, hown, ht⟩ (m_Ju_gradeOf i j hi hj _) w_216 w_217 w_218 w_3 w_219 (by decide +kernel) ⟨rfl, rfl, by decide, by decide⟩ hw (by decide) o_Ju rfl rfl hl.1 rfl (Nat.le_of_ble_eq_true rfl) d_X_judge_55 ⟨Nat.zero_le _, Nat.zero_le _⟩) hw hA (fun v55 u55 H locs hp hw => ?_)
            obtain ⟨hv9, hu⟩ := hp
            subst hv9
            have hu := hu.symm
            subst hu
            refine lv_iconst (v := (-1)) hx hb d_X_judge_58 (by decide) ?_
            refine lv_icmp_ne (tgt := 66) hx hb d_X_judge_59 (by decide) (fun c59 => ?_) (fun c59 => ?_)
            · refine lv_iconst (v := 0) hx hb d_X_judge_66 (by decide) ?_
              refine lv_istore (lv' := [(5, .int 0), (4, .int 1), (0, .ref (ad 0)), (1, .int (nI i)), (2, .int (nI j)), (3, .int x)]) hx hb d_X_judge_67 hl (by decide) rfl (fun ls hl => ?_)
              refine lv_iload hx hb d_X_judge_69 (lv_at hl 0 rfl) ?_
              refine lv_if_eq (tgt := 89) hx hb d_X_judge_71 (by decide) (fun c71 => ?_) (fun c71 => ?_)
              · refine lv_aload_n hx hb d_X_judge_89 rfl (lv_at hl 2 rfl) ?_
                refine x_get (ci := 6) (k := 0) hx hb ht in_X hown hw (by decide) o_X rfl 2 (by decide) (ht _ w_146) rfl d_X_judge_90 ?_
                refine lv_iload_n hx hb d_X_judge_93 rfl (lv_at hl 3 rfl) ?_
                refine lv_iload_n hx hb d_X_judge_94 rfl (lv_at hl 4 rfl) ?_
                refine lv_iload_n hx hb d_X_judge_95 rfl (lv_at hl 5 rfl) ?_
                refine x_cv (x_runV (na := 3) (k := 3) (As := [.int (nI i), .int (nI j), .int x]) (rest := []) (ci := 2) ⟨hx, hb, hml, hown, ht⟩ (m_Ju_set i j x hi hj _) w_224 w_225 w_226 w_3 w_227 (by decide +kernel) ⟨rfl, rfl, by decide, by decide⟩ hw (by decide) o_Ju rfl rfl hl.1 rfl (Nat.le_of_ble_eq_true rfl) d_X_judge_96 ⟨Nat.zero_le _, Nat.zero_le _⟩) hw hA (fun u96 H locs hp hw => ?_)
                have hu := hp.symm
                subst hu
                refine lv_iconst (v := 0) hx hb d_X_judge_99 (by decide) ?_
                exact x_iret hsz hx hb hr hlk hw (by have e := nI_clamp (n := i) (by omega); have e2 := nI_clamp (n := j) (by omega); simp_all [judX]) d_X_judge_100
              · refine lv_aload_n hx hb d_X_judge_74 rfl (lv_at hl 2 rfl) ?_
                refine x_get (ci := 6) (k := 0) hx hb ht in_X hown hw (by decide) o_X rfl 2 (by decide) (ht _ w_146) rfl d_X_judge_75 ?_
                refine x_ci (x_runV (na := 0) (k := 3) (As := []) (rest := []) (ci := 2) ⟨hx, hb, hml, hown, ht⟩ (m_Ju_number _) w_220 w_221 w_222 w_3 w_223 (by decide +kernel) ⟨rfl, rfl, by decide, by decide⟩ hw (by decide) o_Ju rfl rfl hl.1 rfl (Nat.le_of_ble_eq_true rfl) d_X_judge_78 ⟨Nat.zero_le _, Nat.zero_le _⟩) hw hA (fun v78 u78 H locs hp hw => ?_)
                obtain ⟨hv9, hu⟩ := hp
                subst hv9
                have hu := hu.symm
                subst hu
                refine lv_bipush (v := 16) hx hb d_X_judge_81 (by decide) ?_
                refine lv_icmp_lt (tgt := 89) hx hb d_X_judge_83 (by decide) (fun c83 => ?_) (fun c83 => ?_)
                · refine lv_aload_n hx hb d_X_judge_89 rfl (lv_at hl 2 rfl) ?_
                  refine x_get (ci := 6) (k := 0) hx hb ht in_X hown hw (by decide) o_X rfl 2 (by decide) (ht _ w_146) rfl d_X_judge_90 ?_
                  refine lv_iload_n hx hb d_X_judge_93 rfl (lv_at hl 3 rfl) ?_
                  refine lv_iload_n hx hb d_X_judge_94 rfl (lv_at hl 4 rfl) ?_
                  refine lv_iload_n hx hb d_X_judge_95 rfl (lv_at hl 5 rfl) ?_
                  refine x_cv (x_runV (na := 3) (k := 3) (As := [.int (nI i), .int (nI j), .int x]) (rest := []) (ci := 2) ⟨hx, hb, hml, hown, ht⟩ (m_Ju_set i j x hi hj _) w_224 w_225 w_226 w_3 w_227 (by decide +kernel) ⟨rfl, rfl, by decide, by decide⟩ hw (by decide) o_Ju rfl rfl hl.1 rfl (Nat.le_of_ble_eq_true rfl) d_X_judge_96 ⟨Nat.zero_le _, Nat.zero_le _⟩) hw hA (fun u96 H locs hp hw => ?_)
                  have hu := hp.symm
                  subst hu
                  refine lv_iconst (v := 0) hx hb d_X_judge_99 (by decide) ?_
                  exact x_iret hsz hx hb hr hlk hw (by have e := nI_clamp (n := i) (by omega); have e2 := nI_clamp (n := j) (by omega); simp_all [judX]) d_X_judge_100
                · refine lv_bipush (v := (-2)) hx hb d_X_judge_86 (by decide) ?_
                  exact x_iret hsz hx hb hr hlk hw (by have e := nI_clamp (n := i) (by omega); have e2 := nI_clamp (n := j) (by omega); simp_all [judX]) d_X_judge_88
            · refine lv_iconst (v := 1) hx hb d_X_judge_62 (by decide) ?_
              refine lv_goto (tgt := 67) hx hb d_X_judge_63 (by decide) ?_
              refine lv_istore (lv' := [(5, .int 1), (4, .int 1), (0, .ref (ad 0)), (1, .int (nI i)), (2, .int (nI j)), (3, .int x)]) hx hb d_X_judge_67 hl (by decide) rfl (fun ls hl => ?_)
              refine lv_iload hx hb d_X_judge_69 (lv_at hl 0 rfl) ?_
              refine lv_if_eq (tgt := 89) hx hb d_X_judge_71 (by decide) (fun c71 => ?_) (fun c71 => ?_)
              · refine lv_aload_n hx hb d_X_judge_89 rfl (lv_at hl 2 rfl) ?_
                refine x_get (ci := 6) (k := 0) hx hb ht in_X hown hw (by decide) o_X rfl 2 (by decide) (ht _ w_146) rfl d_X_judge_90 ?_
                refine lv_iload_n hx hb d_X_judge_93 rfl (lv_at hl 3 rfl) ?_
                refine lv_iload_n hx hb d_X_judge_94 rfl (lv_at hl 4 rfl) ?_
                refine lv_iload_n hx hb d_X_judge_95 rfl (lv_at hl 5 rfl) ?_
                refine x_cv (x_runV (na := 3) (k := 3) (As := [.int (nI i), .int (nI j), .int x]) (rest := []) (ci := 2) ⟨hx, hb, hml, hown, ht⟩ (m_Ju_set i j x hi hj _) w_224 w_225 w_226 w_3 w_227 (by decide +kernel) ⟨rfl, rfl, by decide, by decide⟩ hw (by decide) o_Ju rfl rfl hl.1 rfl (Nat.le_of_ble_eq_true rfl) d_X_judge_96 ⟨Nat.zero_le _, Nat.zero_le _⟩) hw hA (fun u96 H locs hp hw => ?_)
                have hu := hp.symm
                subst hu
                refine lv_iconst (v := 0) hx hb d_X_judge_99 (by decide) ?_
                exact x_iret hsz hx hb hr hlk hw (by have e := nI_clamp (n := i) (by omega); have e2 := nI_clamp (n := j) (by omega); simp_all [judX]) d_X_judge_100
              · refine lv_aload_n hx hb d_X_judge_74 rfl (lv_at hl 2 rfl) ?_
                refine x_get (ci := 6) (k := 0) hx hb ht in_X hown hw (by decide) o_X rfl 2 (by decide) (ht _ w_146) rfl d_X_judge_75 ?_
                refine x_ci (x_runV (na := 0) (k := 3) (As := []) (rest := []) (ci := 2) ⟨hx, hb, hml, hown, ht⟩ (m_Ju_number _) w_220 w_221 w_222 w_3 w_223 (by decide +kernel) ⟨rfl, rfl, by decide, by decide⟩ hw (by decide) o_Ju rfl rfl hl.1 rfl (Nat.le_of_ble_eq_true rfl) d_X_judge_78 ⟨Nat.zero_le _, Nat.zero_le _⟩) hw hA (fun v78 u78 H locs hp hw => ?_)
                obtain ⟨hv9, hu⟩ := hp
                subst hv9
                have hu := hu.symm
                subst hu
                refine lv_bipush (v := 16) hx hb d_X_judge_81 (by decide) ?_
                refine lv_icmp_lt (tgt := 89) hx hb d_X_judge_83 (by decide) (fun c83 => ?_) (fun c83 => ?_)
                · refine lv_aload_n hx hb d_X_judge_89 rfl (lv_at hl 2 rfl) ?_
                  refine x_get (ci := 6) (k := 0) hx hb ht in_X hown hw (by decide) o_X rfl 2 (by decide) (ht _ w_146) rfl d_X_judge_90 ?_
                  refine lv_iload_n hx hb d_X_judge_93 rfl (lv_at hl 3 rfl) ?_
                  refine lv_iload_n hx hb d_X_judge_94 rfl (lv_at hl 4 rfl) ?_
                  refine lv_iload_n hx hb d_X_judge_95 rfl (lv_at hl 5 rfl) ?_
                  refine x_cv (x_runV (na := 3) (k := 3) (As := [.int (nI i), .int (nI j), .int x]) (rest := []) (ci := 2) ⟨hx, hb, hml, hown, ht⟩ (m_Ju_set i j x hi hj _) w_224 w_225 w_226 w_3 w_227 (by decide +kernel) ⟨rfl, rfl, by decide, by decide⟩ hw (by decide) o_Ju rfl rfl hl.1 rfl (Nat.le_of_ble_eq_true rfl) d_X_judge_96 ⟨Nat.zero_le _, Nat.zero_le _⟩) hw hA (fun u96 H locs hp hw => ?_)
                  have hu := hp.symm
                  subst hu
                  refine lv_iconst (v := 0) hx hb d_X_judge_99 (by decide) ?_
                  exact x_iret hsz hx hb hr hlk hw (by have e := nI_clamp (n := i) (by omega); have e2 := nI_clamp (n := j) (by omega); simp_all [judX]) d_X_judge_100
                · refine lv_bipush (v := (-2)) hx hb d_X_judge_86 (by decide) ?_
                  exact x_iret hsz hx hb hr hlk hw (by have e := nI_clamp (n := i) (by omega); have e2 := nI_clamp (n := j) (by omega); simp_all [judX]) d_X_judge_88
        · refine lv_iconst (v := (-1)) hx hb d_X_judge_42 (by decide) ?_
          exact x_iret hsz hx hb hr hlk hw (by simp_all [judX]) d_X_judge_43
  · refine lv_iload_n hx hb d_X_judge_5 rfl (lv_at hl 3 rfl) ?_
    refine lv_bipush (v := 7) hx hb d_X_judge_6 (by decide) ?_
    refine x_ci (x_runS (na := 2) (As := [.int x, .int 7]) (rest := []) ⟨hx, hb, hml, hown, ht⟩ (m_X_within x 7 _) w_176 w_177 w_1 w_178 (by decide +kernel) ⟨rfl, rfl, by decide, by decide⟩ hw rfl hl.1 rfl (Nat.le_of_ble_eq_true rfl) d_X_judge_8 ⟨Nat.zero_le _, Nat.zero_le _⟩) hw hA (fun v8 u8 H locs hp hw => ?_)
    obtain ⟨hv9, hu⟩ := hp
    subst hv9
    have hu := hu.symm
    subst hu
    refine lv_if_eq (tgt := 18) hx hb d_X_judge_11 (by decide) (fun c11 => ?_) (fun c11 => ?_)
    · refine lv_iconst (v := 0) hx hb d_X_judge_18 (by decide) ?_
      refine lv_istore (lv' := [(4, .int 0), (0, .ref (ad 0)), (1, .int q), (2, .int d), (3, .int x)]) hx hb d_X_judge_19 hl (by decide) rfl (fun ls hl => ?_)
      refine lv_iload_n hx hb d_X_judge_21 rfl (lv_at hl 2 rfl) ?_
      refine x_ci (x_runS (na := 1) (As := [.int q]) (rest := []) ⟨hx, hb, hml, hown, ht⟩ (m_X_isQuery q _) w_209 w_210 w_1 w_211 (by decide +kernel) ⟨rfl, rfl, by decide, by decide⟩ hw rfl hl.1 rfl (Nat.le_of_ble_eq_true rfl) d_X_judge_22 ⟨Nat.zero_le _, Nat.zero_le _⟩) hw hA (fun v22 u22 H locs hp hw => ?_)
      obtain ⟨hv9, hu⟩ := hp
      subst hv9
      have hu := hu.symm
      subst hu
      refine lv_if_eq (tgt := 42) hx hb d_X_judge_25 (by decide) (fun c25 => ?_) (fun c25 => ?_)
      · refine lv_iconst (v := (-1)) hx hb d_X_judge_42 (by decide) ?_
        exact x_iret hsz hx hb hr hlk hw (by simp_all [judX]) d_X_judge_43
      · refine lv_iload_n hx hb d_X_judge_28 rfl (lv_at hl 3 rfl) ?_
        refine lv_bipush (v := 15) hx hb d_X_judge_29 (by decide) ?_
        refine x_ci (x_runS (na := 2) (As := [.int d, .int 15]) (rest := []) ⟨hx, hb, hml, hown, ht⟩ (m_X_within d 15 _) w_176 w_177 w_1 w_178 (by decide +kernel) ⟨rfl, rfl, by decide, by decide⟩ hw rfl hl.1 rfl (Nat.le_of_ble_eq_true rfl) d_X_judge_31 ⟨Nat.zero_le _, Nat.zero_le _⟩) hw hA (fun v31 u31 H locs hp hw => ?_)
        obtain ⟨hv9, hu⟩ := hp
        subst hv9
        have hu := hu.symm
        subst hu
        refine lv_if_eq (tgt := 42) hx hb d_X_judge_34 (by decide) (fun c34 => ?_) (fun c34 => ?_)
        · refine lv_iconst (v := (-1)) hx hb d_X_judge_42 (by decide) ?_
          exact x_iret hsz hx hb hr hlk hw (by simp_all [judX]) d_X_judge_43
        · refine lv_iload hx hb d_X_judge_37 (lv_at hl 0 rfl) ?_
          refine lv_if_ne (tgt := 44) hx hb d_X_judge_39 (by decide) (fun c39 => ?_) (fun c39 => ?_)
          · obtain ⟨i, hi, rfl⟩ : ∃ j : Nat, j < 8 ∧ q = nI j := vp_in_of (within_in (N := 8) c25) (by decide)
            obtain ⟨j, hj, rfl⟩ : ∃ j : Nat, j < 16 ∧ d = nI j := vp_in_of (within_in (N := 16) c34) (by decide)
            refine lv_iload_n hx hb d_X_judge_44 rfl (lv_at hl 4 rfl) ?_
            refine lv_iconst (v := (-1)) hx hb d_X_judge_45 (by decide) ?_
            refine lv_icmp_eq (tgt := 66) hx hb d_X_judge_46 (by decide) (fun c46 => ?_) (fun c46 => ?_)
            · refine lv_iconst (v := 0) hx hb d_X_judge_66 (by decide) ?_
              refine lv_istore (lv' := [(5, .int 0), (4, .int 0), (0, .ref (ad 0)), (1, .int (nI i)), (2, .int (nI j)), (3, .int x)]) hx hb d_X_judge_67 hl (by decide) rfl (fun ls hl => ?_)
              refine lv_iload hx hb d_X_judge_69 (lv_at hl 0 rfl) ?_
              refine lv_if_eq (tgt := 89) hx hb d_X_judge_71 (by decide) (fun c71 => ?_) (fun c71 => ?_)
              · refine lv_aload_n hx hb d_X_judge_89 rfl (lv_at hl 2 rfl) ?_
                refine x_get (ci := 6) (k := 0) hx hb ht in_X hown hw (by decide) o_X rfl 2 (by decide) (ht _ w_146) rfl d_X_judge_90 ?_
                refine lv_iload_n hx hb d_X_judge_93 rfl (lv_at hl 3 rfl) ?_
                refine lv_iload_n hx hb d_X_judge_94 rfl (lv_at hl 4 rfl) ?_
                refine lv_iload_n hx hb d_X_judge_95 rfl (lv_at hl 5 rfl) ?_
                refine x_cv (x_runV (na := 3) (k := 3) (As := [.int (nI i), .int (nI j), .int x]) (rest := []) (ci := 2) ⟨hx, hb, hml, hown, ht⟩ (m_Ju_set i j x hi hj _) w_224 w_225 w_226 w_3 w_227 (by decide +kernel) ⟨rfl, rfl, by decide, by decide⟩ hw (by decide) o_Ju rfl rfl hl.1 rfl (Nat.le_of_ble_eq_true rfl) d_X_judge_96 ⟨Nat.zero_le _, Nat.zero_le _⟩) hw hA (fun u96 H locs hp hw => ?_)
                have hu := hp.symm
                subst hu
                refine lv_iconst (v := 0) hx hb d_X_judge_99 (by decide) ?_
                exact x_iret hsz hx hb hr hlk hw (by have e := nI_clamp (n := i) (by omega); have e2 := nI_clamp (n := j) (by omega); simp_all [judX]) d_X_judge_100
              · refine lv_aload_n hx hb d_X_judge_74 rfl (lv_at hl 2 rfl) ?_
                refine x_get (ci := 6) (k := 0) hx hb ht in_X hown hw (by decide) o_X rfl 2 (by decide) (ht _ w_146) rfl d_X_judge_75 ?_
                refine x_ci (x_runV (na := 0) (k := 3) (As := []) (rest := []) (ci := 2) ⟨hx, hb, hml, hown, ht⟩ (m_Ju_number _) w_220 w_221 w_222 w_3 w_223 (by decide +kernel) ⟨rfl, rfl, by decide, by decide⟩ hw (by decide) o_Ju rfl rfl hl.1 rfl (Nat.le_of_ble_eq_true rfl) d_X_judge_78 ⟨Nat.zero_le _, Nat.zero_le _⟩) hw hA (fun v78 u78 H locs hp hw => ?_)
                obtain ⟨hv9, hu⟩ := hp
                subst hv9
                have hu := hu.symm
                subst hu
                refine lv_bipush (v := 16) hx hb d_X_judge_81 (by decide) ?_
                refine lv_icmp_lt (tgt := 89) hx hb d_X_judge_83 (by decide) (fun c83 => ?_) (fun c83 => ?_)
                · refine lv_aload_n hx hb d_X_judge_89 rfl (lv_at hl 2 rfl) ?_
                  refine x_get (ci := 6) (k := 0) hx hb ht in_X hown hw (by decide) o_X rfl 2 (by decide) (ht _ w_146) rfl d_X_judge_90 ?_
                  refine lv_iload_n hx hb d_X_judge_93 rfl (lv_at hl 3 rfl) ?_
                  refine lv_iload_n hx hb d_X_judge_94 rfl (lv_at hl 4 rfl) ?_
                  refine lv_iload_n hx hb d_X_judge_95 rfl (lv_at hl 5 rfl) ?_
                  refine x_cv (x_runV (na := 3) (k := 3) (As := [.int (nI i), .int (nI j), .int x]) (rest := []) (ci := 2) ⟨hx, hb, hml, hown, ht⟩ (m_Ju_set i j x hi hj _) w_224 w_225 w_226 w_3 w_227 (by decide +kernel) ⟨rfl, rfl, by decide, by decide⟩ hw (by decide) o_Ju rfl rfl hl.1 rfl (Nat.le_of_ble_eq_true rfl) d_X_judge_96 ⟨Nat.zero_le _, Nat.zero_le _⟩) hw hA (fun u96 H locs hp hw => ?_)
                  have hu := hp.symm
                  subst hu
                  refine lv_iconst (v := 0) hx hb d_X_judge_99 (by decide) ?_
                  exact x_iret hsz hx hb hr hlk hw (by have e := nI_clamp (n := i) (by omega); have e2 := nI_clamp (n := j) (by omega); simp_all [judX]) d_X_judge_100
                · refine lv_bipush (v := (-2)) hx hb d_X_judge_86 (by decide) ?_
                  exact x_iret hsz hx hb hr hlk hw (by have e := nI_clamp (n := i) (by omega); have e2 := nI_clamp (n := j) (by omega); simp_all [judX]) d_X_judge_88
            · refine lv_aload_n hx hb d_X_judge_49 rfl (lv_at hl 1 rfl) ?_
              refine x_get (ci := 6) (k := 0) hx hb ht in_X hown hw (by decide) o_X rfl 2 (by decide) (ht _ w_146) rfl d_X_judge_50 ?_
              refine lv_iload_n hx hb d_X_judge_53 rfl (lv_at hl 2 rfl) ?_
              refine lv_iload_n hx hb d_X_judge_54 rfl (lv_at hl 3 rfl) ?_
              refine x_ci (x_runV (na := 2) (k := 3) (As := [.int (nI i), .int (nI j)]) (rest := []) (ci := 2) ⟨hx, hb, hml, hown, ht⟩ (m_Ju_gradeOf i j hi hj _) w_216 w_217 w_218 w_3 w_219 (by decide +kernel) ⟨rfl, rfl, by decide, by decide⟩ hw (by decide) o_Ju rfl rfl hl.1 rfl (Nat.le_of_ble_eq_true rfl) d_X_judge_55 ⟨Nat.zero_le _, Nat.zero_le _⟩) hw hA (fun v55 u55 H locs hp hw => ?_)
              obtain ⟨hv9, hu⟩ := hp
              subst hv9
              have hu := hu.symm
              subst hu
              refine lv_iconst (v := (-1)) hx hb d_X_judge_58 (by decide) ?_
              refine lv_icmp_ne (tgt := 66) hx hb d_X_judge_59 (by decide) (fun c59 => ?_) (fun c59 => ?_)
              · refine lv_iconst (v := 0) hx hb d_X_judge_66 (by decide) ?_
                refine lv_istore (lv' := [(5, .int 0), (4, .int 0), (0, .ref (ad 0)), (1, .int (nI i)), (2, .int (nI j)), (3, .int x)]) hx hb d_X_judge_67 hl (by decide) rfl (fun ls hl => ?_)
                refine lv_iload hx hb d_X_judge_69 (lv_at hl 0 rfl) ?_
                refine lv_if_eq (tgt := 89) hx hb d_X_judge_71 (by decide) (fun c71 => ?_) (fun c71 => ?_)
                · refine lv_aload_n hx hb d_X_judge_89 rfl (lv_at hl 2 rfl) ?_
                  refine x_get (ci := 6) (k := 0) hx hb ht in_X hown hw (by decide) o_X rfl 2 (by decide) (ht _ w_146) rfl d_X_judge_90 ?_
                  refine lv_iload_n hx hb d_X_judge_93 rfl (lv_at hl 3 rfl) ?_
                  refine lv_iload_n hx hb d_X_judge_94 rfl (lv_at hl 4 rfl) ?_
                  refine lv_iload_n hx hb d_X_judge_95 rfl (lv_at hl 5 rfl) ?_
                  refine x_cv (x_runV (na := 3) (k := 3) (As := [.int (nI i), .int (nI j), .int x]) (rest := []) (ci := 2) ⟨hx, hb, hml, hown, ht⟩ (m_Ju_set i j x hi hj _) w_224 w_225 w_226 w_3 w_227 (by decide +kernel) ⟨rfl, rfl, by decide, by decide⟩ hw (by decide) o_Ju rfl rfl hl.1 rfl (Nat.le_of_ble_eq_true rfl) d_X_judge_96 ⟨Nat.zero_le _, Nat.zero_le _⟩) hw hA (fun u96 H locs hp hw => ?_)
                  have hu := hp.symm
                  subst hu
                  refine lv_iconst (v := 0) hx hb d_X_judge_99 (by decide) ?_
                  exact x_iret hsz hx hb hr hlk hw (by have e := nI_clamp (n := i) (by omega); have e2 := nI_clamp (n := j) (by omega); simp_all [judX]) d_X_judge_100
                · refine lv_aload_n hx hb d_X_judge_74 rfl (lv_at hl 2 rfl) ?_
                  refine x_get (ci := 6) (k := 0) hx hb ht in_X hown hw (by decide) o_X rfl 2 (by decide) (ht _ w_146) rfl d_X_judge_75 ?_
                  refine x_ci (x_runV (na := 0) (k := 3) (As := []) (rest := []) (ci := 2) ⟨hx, hb, hml, hown, ht⟩ (m_Ju_number _) w_220 w_221 w_222 w_3 w_223 (by decide +kernel) ⟨rfl, rfl, by decide, by decide⟩ hw (by decide) o_Ju rfl rfl hl.1 rfl (Nat.le_of_ble_eq_true rfl) d_X_judge_78 ⟨Nat.zero_le _, Nat.zero_le _⟩) hw hA (fun v78 u78 H locs hp hw => ?_)
                  obtain ⟨hv9, hu⟩ := hp
                  subst hv9
                  have hu := hu.symm
                  subst hu
                  refine lv_bipush (v := 16) hx hb d_X_judge_81 (by decide) ?_
                  refine lv_icmp_lt (tgt := 89) hx hb d_X_judge_83 (by decide) (fun c83 => ?_) (fun c83 => ?_)
                  · refine lv_aload_n hx hb d_X_judge_89 rfl (lv_at hl 2 rfl) ?_
                    refine x_get (ci := 6) (k := 0) hx hb ht in_X hown hw (by decide) o_X rfl 2 (by decide) (ht _ w_146) rfl d_X_judge_90 ?_
                    refine lv_iload_n hx hb d_X_judge_93 rfl (lv_at hl 3 rfl) ?_
                    refine lv_iload_n hx hb d_X_judge_94 rfl (lv_at hl 4 rfl) ?_
                    refine lv_iload_n hx hb d_X_judge_95 rfl (lv_at hl 5 rfl) ?_
                    refine x_cv (x_runV (na := 3) (k := 3) (As := [.int (nI i), .int (nI j), .int x]) (rest := []) (ci := 2) ⟨hx, hb, hml, hown, ht⟩ (m_Ju_set i j x hi hj _) w_224 w_225 w_226 w_3 w_227 (by decide +kernel) ⟨rfl, rfl, by decide, by decide⟩ hw (by decide) o_Ju rfl rfl hl.1 rfl (Nat.le_of_ble_eq_true rfl) d_X_judge_96 ⟨Nat.zero_le _, Nat.zero_le _⟩) hw hA (fun u96 H locs hp hw => ?_)
                    have hu := hp.symm
                    subst hu
                    refine lv_iconst (v := 0) hx hb d_X_judge_99 (by decide) ?_
                    exact x_iret hsz hx hb hr hlk hw (by have e := nI_clamp (n := i) (by omega); have e2 := nI_clamp (n := j) (by omega); simp_all [judX]) d_X_judge_100
                  · refine lv_bipush (v := (-2)) hx hb d_X_judge_86 (by decide) ?_
                    exact x_iret hsz hx hb hr hlk hw (by have e := nI_clamp (n := i) (by omega); have e2 := nI_clamp (n := j) (by omega); simp_all [judX]) d_X_judge_88
              · refine lv_iconst (v := 1) hx hb d_X_judge_62 (by decide) ?_
                refine lv_goto (tgt := 67) hx hb d_X_judge_63 (by decide) ?_
                refine lv_istore (lv' := [(5, .int 1), (4, .int 0), (0, .ref (ad 0)), (1, .int (nI i)), (2, .int (nI j)), (3, .int x)]) hx hb d_X_judge_67 hl (by decide) rfl (fun ls hl => ?_)
                refine lv_iload hx hb d_X_judge_69 (lv_at hl 0 rfl) ?_
                refine lv_if_eq (tgt := 89) hx hb d_X_judge_71 (by decide) (fun c71 => ?_) (fun c71 => ?_)
                · refine lv_aload_n hx hb d_X_judge_89 rfl (lv_at hl 2 rfl) ?_
                  refine x_get (ci := 6) (k := 0) hx hb ht in_X hown hw (by decide) o_X rfl 2 (by decide) (ht _ w_146) rfl d_X_judge_90 ?_
                  refine lv_iload_n hx hb d_X_judge_93 rfl (lv_at hl 3 rfl) ?_
                  refine lv_iload_n hx hb d_X_judge_94 rfl (lv_at hl 4 rfl) ?_
                  refine lv_iload_n hx hb d_X_judge_95 rfl (lv_at hl 5 rfl) ?_
                  refine x_cv (x_runV (na := 3) (k := 3) (As := [.int (nI i), .int (nI j), .int x]) (rest := []) (ci := 2) ⟨hx, hb, hml, hown, ht⟩ (m_Ju_set i j x hi hj _) w_224 w_225 w_226 w_3 w_227 (by decide +kernel) ⟨rfl, rfl, by decide, by decide⟩ hw (by decide) o_Ju rfl rfl hl.1 rfl (Nat.le_of_ble_eq_true rfl) d_X_judge_96 ⟨Nat.zero_le _, Nat.zero_le _⟩) hw hA (fun u96 H locs hp hw => ?_)
                  have hu := hp.symm
                  subst hu
                  refine lv_iconst (v := 0) hx hb d_X_judge_99 (by decide) ?_
                  exact x_iret hsz hx hb hr hlk hw (by have e := nI_clamp (n := i) (by omega); have e2 := nI_clamp (n := j) (by omega); simp_all [judX]) d_X_judge_100
                · refine lv_aload_n hx hb d_X_judge_74 rfl (lv_at hl 2 rfl) ?_
                  refine x_get (ci := 6) (k := 0) hx hb ht in_X hown hw (by decide) o_X rfl 2 (by decide) (ht _ w_146) rfl d_X_judge_75 ?_
                  refine x_ci (x_runV (na := 0) (k := 3) (As := []) (rest := []) (ci := 2) ⟨hx, hb, hml, hown, ht⟩ (m_Ju_number _) w_220 w_221 w_222 w_3 w_223 (by decide +kernel) ⟨rfl, rfl, by decide, by decide⟩ hw (by decide) o_Ju rfl rfl hl.1 rfl (Nat.le_of_ble_eq_true rfl) d_X_judge_78 ⟨Nat.zero_le _, Nat.zero_le _⟩) hw hA (fun v78 u78 H locs hp hw => ?_)
                  obtain ⟨hv9, hu⟩ := hp
                  subst hv9
                  have hu := hu.symm
                  subst hu
                  refine lv_bipush (v := 16) hx hb d_X_judge_81 (by decide) ?_
                  refine lv_icmp_lt (tgt := 89) hx hb d_X_judge_83 (by decide) (fun c83 => ?_) (fun c83 => ?_)
                  · refine lv_aload_n hx hb d_X_judge_89 rfl (lv_at hl 2 rfl) ?_
                    refine x_get (ci := 6) (k := 0) hx hb ht in_X hown hw (by decide) o_X rfl 2 (by decide) (ht _ w_146) rfl d_X_judge_90 ?_
                    refine lv_iload_n hx hb d_X_judge_93 rfl (lv_at hl 3 rfl) ?_
                    refine lv_iload_n hx hb d_X_judge_94 rfl (lv_at hl 4 rfl) ?_
                    refine lv_iload_n hx hb d_X_judge_95 rfl (lv_at hl 5 rfl) ?_
                    refine x_cv (x_runV (na := 3) (k := 3) (As := [.int (nI i), .int (nI j), .int x]) (rest := []) (ci := 2) ⟨hx, hb, hml, hown, ht⟩ (m_Ju_set i j x hi hj _) w_224 w_225 w_226 w_3 w_227 (by decide +kernel) ⟨rfl, rfl, by decide, by decide⟩ hw (by decide) o_Ju rfl rfl hl.1 rfl (Nat.le_of_ble_eq_true rfl) d_X_judge_96 ⟨Nat.zero_le _, Nat.zero_le _⟩) hw hA (fun u96 H locs hp hw => ?_)
                    have hu := hp.symm
                    subst hu
                    refine lv_iconst (v := 0) hx hb d_X_judge_99 (by decide) ?_
                    exact x_iret hsz hx hb hr hlk hw (by have e := nI_clamp (n := i) (by omega); have e2 := nI_clamp (n := j) (by omega); simp_all [judX]) d_X_judge_100
                  · refine lv_bipush (v := (-2)) hx hb d_X_judge_86 (by decide) ?_
                    exact x_iret hsz hx hb hr hlk hw (by have e := nI_clamp (n := i) (by omega); have e2 := nI_clamp (n := j) (by omega); simp_all [judX]) d_X_judge_88
          · refine lv_iconst (v := (-1)) hx hb d_X_judge_42 (by decide) ?_
            exact x_iret hsz hx hb hr hlk hw (by simp_all [judX]) d_X_judge_43
    · refine lv_iconst (v := 1) hx hb d_X_judge_14 (by decide) ?_
      refine lv_goto (tgt := 19) hx hb d_X_judge_15 (by decide) ?_
      refine lv_istore (lv' := [(4, .int 1), (0, .ref (ad 0)), (1, .int q), (2, .int d), (3, .int x)]) hx hb d_X_judge_19 hl (by decide) rfl (fun ls hl => ?_)
      refine lv_iload_n hx hb d_X_judge_21 rfl (lv_at hl 2 rfl) ?_
      refine x_ci (x_runS (na := 1) (As := [.int q]) (rest := []) ⟨hx, hb, hml, hown, ht⟩ (m_X_isQuery q _) w_209 w_210 w_1 w_211 (by decide +kernel) ⟨rfl, rfl, by decide, by decide⟩ hw rfl hl.1 rfl (Nat.le_of_ble_eq_true rfl) d_X_judge_22 ⟨Nat.zero_le _, Nat.zero_le _⟩) hw hA (fun v22 u22 H locs hp hw => ?_)
      obtain ⟨hv9, hu⟩ := hp
      subst hv9
      have hu := hu.symm
      subst hu
      refine lv_if_eq (tgt := 42) hx hb d_X_judge_25 (by decide) (fun c25 => ?_) (fun c25 => ?_)
      · refine lv_iconst (v := (-1)) hx hb d_X_judge_42 (by decide) ?_
        exact x_iret hsz hx hb hr hlk hw (by simp_all [judX]) d_X_judge_43
      · refine lv_iload_n hx hb d_X_judge_28 rfl (lv_at hl 3 rfl) ?_
        refine lv_bipush (v := 15) hx hb d_X_judge_29 (by decide) ?_
        refine x_ci (x_runS (na := 2) (As := [.int d, .int 15]) (rest := []) ⟨hx, hb, hml, hown, ht⟩ (m_X_within d 15 _) w_176 w_177 w_1 w_178 (by decide +kernel) ⟨rfl, rfl, by decide, by decide⟩ hw rfl hl.1 rfl (Nat.le_of_ble_eq_true rfl) d_X_judge_31 ⟨Nat.zero_le _, Nat.zero_le _⟩) hw hA (fun v31 u31 H locs hp hw => ?_)
        obtain ⟨hv9, hu⟩ := hp
        subst hv9
        have hu := hu.symm
        subst hu
        refine lv_if_eq (tgt := 42) hx hb d_X_judge_34 (by decide) (fun c34 => ?_) (fun c34 => ?_)
        · refine lv_iconst (v := (-1)) hx hb d_X_judge_42 (by decide) ?_
          exact x_iret hsz hx hb hr hlk hw (by simp_all [judX]) d_X_judge_43
        · refine lv_iload hx hb d_X_judge_37 (lv_at hl 0 rfl) ?_
          refine lv_if_ne (tgt := 44) hx hb d_X_judge_39 (by decide) (fun c39 => ?_) (fun c39 => ?_)
          · obtain ⟨i, hi, rfl⟩ : ∃ j : Nat, j < 8 ∧ q = nI j := vp_in_of (within_in (N := 8) c25) (by decide)
            obtain ⟨j, hj, rfl⟩ : ∃ j : Nat, j < 16 ∧ d = nI j := vp_in_of (within_in (N := 16) c34) (by decide)
            refine lv_iload_n hx hb d_X_judge_44 rfl (lv_at hl 4 rfl) ?_
            refine lv_iconst (v := (-1)) hx hb d_X_judge_45 (by decide) ?_
            refine lv_icmp_eq (tgt := 66) hx hb d_X_judge_46 (by decide) (fun c46 => ?_) (fun c46 => ?_)
            · refine lv_iconst (v := 0) hx hb d_X_judge_66 (by decide) ?_
              refine lv_istore (lv' := [(5, .int 0), (4, .int 1), (0, .ref (ad 0)), (1, .int (nI i)), (2, .int (nI j)), (3, .int x)]) hx hb d_X_judge_67 hl (by decide) rfl (fun ls hl => ?_)
              refine lv_iload hx hb d_X_judge_69 (lv_at hl 0 rfl) ?_
              refine lv_if_eq (tgt := 89) hx hb d_X_judge_71 (by decide) (fun c71 => ?_) (fun c71 => ?_)
              · refine lv_aload_n hx hb d_X_judge_89 rfl (lv_at hl 2 rfl) ?_
                refine x_get (ci := 6) (k := 0) hx hb ht in_X hown hw (by decide) o_X rfl 2 (by decide) (ht _ w_146) rfl d_X_judge_90 ?_
                refine lv_iload_n hx hb d_X_judge_93 rfl (lv_at hl 3 rfl) ?_
                refine lv_iload_n hx hb d_X_judge_94 rfl (lv_at hl 4 rfl) ?_
                refine lv_iload_n hx hb d_X_judge_95 rfl (lv_at hl 5 rfl) ?_
                refine x_cv (x_runV (na := 3) (k := 3) (As := [.int (nI i), .int (nI j), .int x]) (rest := []) (ci := 2) ⟨hx, hb, hml, hown, ht⟩ (m_Ju_set i j x hi hj _) w_224 w_225 w_226 w_3 w_227 (by decide +kernel) ⟨rfl, rfl, by decide, by decide⟩ hw (by decide) o_Ju rfl rfl hl.1 rfl (Nat.le_of_ble_eq_true rfl) d_X_judge_96 ⟨Nat.zero_le _, Nat.zero_le _⟩) hw hA (fun u96 H locs hp hw => ?_)
                have hu := hp.symm
                subst hu
                refine lv_iconst (v := 0) hx hb d_X_judge_99 (by decide) ?_
                exact x_iret hsz hx hb hr hlk hw (by have e := nI_clamp (n := i) (by omega); have e2 := nI_clamp (n := j) (by omega); simp_all [judX]) d_X_judge_100
              · refine lv_aload_n hx hb d_X_judge_74 rfl (lv_at hl 2 rfl) ?_
                refine x_get (ci := 6) (k := 0) hx hb ht in_X hown hw (by decide) o_X rfl 2 (by decide) (ht _ w_146) rfl d_X_judge_75 ?_
                refine x_ci (x_runV (na := 0) (k := 3) (As := []) (rest := []) (ci := 2) ⟨hx, hb, hml, hown, ht⟩ (m_Ju_number _) w_220 w_221 w_222 w_3 w_223 (by decide +kernel) ⟨rfl, rfl, by decide, by decide⟩ hw (by decide) o_Ju rfl rfl hl.1 rfl (Nat.le_of_ble_eq_true rfl) d_X_judge_78 ⟨Nat.zero_le _, Nat.zero_le _⟩) hw hA (fun v78 u78 H locs hp hw => ?_)
                obtain ⟨hv9, hu⟩ := hp
                subst hv9
                have hu := hu.symm
                subst hu
                refine lv_bipush (v := 16) hx hb d_X_judge_81 (by decide) ?_
                refine lv_icmp_lt (tgt := 89) hx hb d_X_judge_83 (by decide) (fun c83 => ?_) (fun c83 => ?_)
                · refine lv_aload_n hx hb d_X_judge_89 rfl (lv_at hl 2 rfl) ?_
                  refine x_get (ci := 6) (k := 0) hx hb ht in_X hown hw (by decide) o_X rfl 2 (by decide) (ht _ w_146) rfl d_X_judge_90 ?_
                  refine lv_iload_n hx hb d_X_judge_93 rfl (lv_at hl 3 rfl) ?_
                  refine lv_iload_n hx hb d_X_judge_94 rfl (lv_at hl 4 rfl) ?_
                  refine lv_iload_n hx hb d_X_judge_95 rfl (lv_at hl 5 rfl) ?_
                  refine x_cv (x_runV (na := 3) (k := 3) (As := [.int (nI i), .int (nI j), .int x]) (rest := []) (ci := 2) ⟨hx, hb, hml, hown, ht⟩ (m_Ju_set i j x hi hj _) w_224 w_225 w_226 w_3 w_227 (by decide +kernel) ⟨rfl, rfl, by decide, by decide⟩ hw (by decide) o_Ju rfl rfl hl.1 rfl (Nat.le_of_ble_eq_true rfl) d_X_judge_96 ⟨Nat.zero_le _, Nat.zero_le _⟩) hw hA (fun u96 H locs hp hw => ?_)
                  have hu := hp.symm
                  subst hu
                  refine lv_iconst (v := 0) hx hb d_X_judge_99 (by decide) ?_
                  exact x_iret hsz hx hb hr hlk hw (by have e := nI_clamp (n := i) (by omega); have e2 := nI_clamp (n := j) (by omega); simp_all [judX]) d_X_judge_100
                · refine lv_bipush (v := (-2)) hx hb d_X_judge_86 (by decide) ?_
                  exact x_iret hsz hx hb hr hlk hw (by have e := nI_clamp (n := i) (by omega); have e2 := nI_clamp (n := j) (by omega); simp_all [judX]) d_X_judge_88
            · refine lv_aload_n hx hb d_X_judge_49 rfl (lv_at hl 1 rfl) ?_
              refine x_get (ci := 6) (k := 0) hx hb ht in_X hown hw (by decide) o_X rfl 2 (by decide) (ht _ w_146) rfl d_X_judge_50 ?_
              refine lv_iload_n hx hb d_X_judge_53 rfl (lv_at hl 2 rfl) ?_
              refine lv_iload_n hx hb d_X_judge_54 rfl (lv_at hl 3 rfl) ?_
              refine x_ci (x_runV (na := 2) (k := 3) (As := [.int (nI i), .int (nI j)]) (rest := []) (ci := 2) ⟨hx, hb, hml, hown, ht⟩ (m_Ju_gradeOf i j hi hj _) w_216 w_217 w_218 w_3 w_219 (by decide +kernel) ⟨rfl, rfl, by decide, by decide⟩ hw (by decide) o_Ju rfl rfl hl.1 rfl (Nat.le_of_ble_eq_true rfl) d_X_judge_55 ⟨Nat.zero_le _, Nat.zero_le _⟩) hw hA (fun v55 u55 H locs hp hw => ?_)
              obtain ⟨hv9, hu⟩ := hp
              subst hv9
              have hu := hu.symm
              subst hu
              refine lv_iconst (v := (-1)) hx hb d_X_judge_58 (by decide) ?_
              refine lv_icmp_ne (tgt := 66) hx hb d_X_judge_59 (by decide) (fun c59 => ?_) (fun c59 => ?_)
              · refine lv_iconst (v := 0) hx hb d_X_judge_66 (by decide) ?_
                refine lv_istore (lv' := [(5, .int 0), (4, .int 1), (0, .ref (ad 0)), (1, .int (nI i)), (2, .int (nI j)), (3, .int x)]) hx hb d_X_judge_67 hl (by decide) rfl (fun ls hl => ?_)
                refine lv_iload hx hb d_X_judge_69 (lv_at hl 0 rfl) ?_
                refine lv_if_eq (tgt := 89) hx hb d_X_judge_71 (by decide) (fun c71 => ?_) (fun c71 => ?_)
                · refine lv_aload_n hx hb d_X_judge_89 rfl (lv_at hl 2 rfl) ?_
                  refine x_get (ci := 6) (k := 0) hx hb ht in_X hown hw (by decide) o_X rfl 2 (by decide) (ht _ w_146) rfl d_X_judge_90 ?_
                  refine lv_iload_n hx hb d_X_judge_93 rfl (lv_at hl 3 rfl) ?_
                  refine lv_iload_n hx hb d_X_judge_94 rfl (lv_at hl 4 rfl) ?_
                  refine lv_iload_n hx hb d_X_judge_95 rfl (lv_at hl 5 rfl) ?_
                  refine x_cv (x_runV (na := 3) (k := 3) (As := [.int (nI i), .int (nI j), .int x]) (rest := []) (ci := 2) ⟨hx, hb, hml, hown, ht⟩ (m_Ju_set i j x hi hj _) w_224 w_225 w_226 w_3 w_227 (by decide +kernel) ⟨rfl, rfl, by decide, by decide⟩ hw (by decide) o_Ju rfl rfl hl.1 rfl (Nat.le_of_ble_eq_true rfl) d_X_judge_96 ⟨Nat.zero_le _, Nat.zero_le _⟩) hw hA (fun u96 H locs hp hw => ?_)
                  have hu := hp.symm
                  subst hu
                  refine lv_iconst (v := 0) hx hb d_X_judge_99 (by decide) ?_
                  exact x_iret hsz hx hb hr hlk hw (by have e := nI_clamp (n := i) (by omega); have e2 := nI_clamp (n := j) (by omega); simp_all [judX]) d_X_judge_100
                · refine lv_aload_n hx hb d_X_judge_74 rfl (lv_at hl 2 rfl) ?_
                  refine x_get (ci := 6) (k := 0) hx hb ht in_X hown hw (by decide) o_X rfl 2 (by decide) (ht _ w_146) rfl d_X_judge_75 ?_
                  refine x_ci (x_runV (na := 0) (k := 3) (As := []) (rest := []) (ci := 2) ⟨hx, hb, hml, hown, ht⟩ (m_Ju_number _) w_220 w_221 w_222 w_3 w_223 (by decide +kernel) ⟨rfl, rfl, by decide, by decide⟩ hw (by decide) o_Ju rfl rfl hl.1 rfl (Nat.le_of_ble_eq_true rfl) d_X_judge_78 ⟨Nat.zero_le _, Nat.zero_le _⟩) hw hA (fun v78 u78 H locs hp hw => ?_)
                  obtain ⟨hv9, hu⟩ := hp
                  subst hv9
                  have hu := hu.symm
                  subst hu
                  refine lv_bipush (v := 16) hx hb d_X_judge_81 (by decide) ?_
                  refine lv_icmp_lt (tgt := 89) hx hb d_X_judge_83 (by decide) (fun c83 => ?_) (fun c83 => ?_)
                  · refine lv_aload_n hx hb d_X_judge_89 rfl (lv_at hl 2 rfl) ?_
                    refine x_get (ci := 6) (k := 0) hx hb ht in_X hown hw (by decide) o_X rfl 2 (by decide) (ht _ w_146) rfl d_X_judge_90 ?_
                    refine lv_iload_n hx hb d_X_judge_93 rfl (lv_at hl 3 rfl) ?_
                    refine lv_iload_n hx hb d_X_judge_94 rfl (lv_at hl 4 rfl) ?_
                    refine lv_iload_n hx hb d_X_judge_95 rfl (lv_at hl 5 rfl) ?_
                    refine x_cv (x_runV (na := 3) (k := 3) (As := [.int (nI i), .int (nI j), .int x]) (rest := []) (ci := 2) ⟨hx, hb, hml, hown, ht⟩ (m_Ju_set i j x hi hj _) w_224 w_225 w_226 w_3 w_227 (by decide +kernel) ⟨rfl, rfl, by decide, by decide⟩ hw (by decide) o_Ju rfl rfl hl.1 rfl (Nat.le_of_ble_eq_true rfl) d_X_judge_96 ⟨Nat.zero_le _, Nat.zero_le _⟩) hw hA (fun u96 H locs hp hw => ?_)
                    have hu := hp.symm
                    subst hu
                    refine lv_iconst (v := 0) hx hb d_X_judge_99 (by decide) ?_
                    exact x_iret hsz hx hb hr hlk hw (by have e := nI_clamp (n := i) (by omega); have e2 := nI_clamp (n := j) (by omega); simp_all [judX]) d_X_judge_100
                  · refine lv_bipush (v := (-2)) hx hb d_X_judge_86 (by decide) ?_
                    exact x_iret hsz hx hb hr hlk hw (by have e := nI_clamp (n := i) (by omega); have e2 := nI_clamp (n := j) (by omega); simp_all [judX]) d_X_judge_88
              · refine lv_iconst (v := 1) hx hb d_X_judge_62 (by decide) ?_
                refine lv_goto (tgt := 67) hx hb d_X_judge_63 (by decide) ?_
                refine lv_istore (lv' := [(5, .int 1), (4, .int 1), (0, .ref (ad 0)), (1, .int (nI i)), (2, .int (nI j)), (3, .int x)]) hx hb d_X_judge_67 hl (by decide) rfl (fun ls hl => ?_)
                refine lv_iload hx hb d_X_judge_69 (lv_at hl 0 rfl) ?_
                refine lv_if_eq (tgt := 89) hx hb d_X_judge_71 (by decide) (fun c71 => ?_) (fun c71 => ?_)
                · refine lv_aload_n hx hb d_X_judge_89 rfl (lv_at hl 2 rfl) ?_
                  refine x_get (ci := 6) (k := 0) hx hb ht in_X hown hw (by decide) o_X rfl 2 (by decide) (ht _ w_146) rfl d_X_judge_90 ?_
                  refine lv_iload_n hx hb d_X_judge_93 rfl (lv_at hl 3 rfl) ?_
                  refine lv_iload_n hx hb d_X_judge_94 rfl (lv_at hl 4 rfl) ?_
                  refine lv_iload_n hx hb d_X_judge_95 rfl (lv_at hl 5 rfl) ?_
                  refine x_cv (x_runV (na := 3) (k := 3) (As := [.int (nI i), .int (nI j), .int x]) (rest := []) (ci := 2) ⟨hx, hb, hml, hown, ht⟩ (m_Ju_set i j x hi hj _) w_224 w_225 w_226 w_3 w_227 (by decide +kernel) ⟨rfl, rfl, by decide, by decide⟩ hw (by decide) o_Ju rfl rfl hl.1 rfl (Nat.le_of_ble_eq_true rfl) d_X_judge_96 ⟨Nat.zero_le _, Nat.zero_le _⟩) hw hA (fun u96 H locs hp hw => ?_)
                  have hu := hp.symm
                  subst hu
                  refine lv_iconst (v := 0) hx hb d_X_judge_99 (by decide) ?_
                  exact x_iret hsz hx hb hr hlk hw (by have e := nI_clamp (n := i) (by omega); have e2 := nI_clamp (n := j) (by omega); simp_all [judX]) d_X_judge_100
                · refine lv_aload_n hx hb d_X_judge_74 rfl (lv_at hl 2 rfl) ?_
                  refine x_get (ci := 6) (k := 0) hx hb ht in_X hown hw (by decide) o_X rfl 2 (by decide) (ht _ w_146) rfl d_X_judge_75 ?_
                  refine x_ci (x_runV (na := 0) (k := 3) (As := []) (rest := []) (ci := 2) ⟨hx, hb, hml, hown, ht⟩ (m_Ju_number _) w_220 w_221 w_222 w_3 w_223 (by decide +kernel) ⟨rfl, rfl, by decide, by decide⟩ hw (by decide) o_Ju rfl rfl hl.1 rfl (Nat.le_of_ble_eq_true rfl) d_X_judge_78 ⟨Nat.zero_le _, Nat.zero_le _⟩) hw hA (fun v78 u78 H locs hp hw => ?_)
                  obtain ⟨hv9, hu⟩ := hp
                  subst hv9
                  have hu := hu.symm
                  subst hu
                  refine lv_bipush (v := 16) hx hb d_X_judge_81 (by decide) ?_
                  refine lv_icmp_lt (tgt := 89) hx hb d_X_judge_83 (by decide) (fun c83 => ?_) (fun c83 => ?_)
                  · refine lv_aload_n hx hb d_X_judge_89 rfl (lv_at hl 2 rfl) ?_
                    refine x_get (ci := 6) (k := 0) hx hb ht in_X hown hw (by decide) o_X rfl 2 (by decide) (ht _ w_146) rfl d_X_judge_90 ?_
                    refine lv_iload_n hx hb d_X_judge_93 rfl (lv_at hl 3 rfl) ?_
                    refine lv_iload_n hx hb d_X_judge_94 rfl (lv_at hl 4 rfl) ?_
                    refine lv_iload_n hx hb d_X_judge_95 rfl (lv_at hl 5 rfl) ?_
                    refine x_cv (x_runV (na := 3) (k := 3) (As := [.int (nI i), .int (nI j), .int x]) (rest := []) (ci := 2) ⟨hx, hb, hml, hown, ht⟩ (m_Ju_set i j x hi hj _) w_224 w_225 w_226 w_3 w_227 (by decide +kernel) ⟨rfl, rfl, by decide, by decide⟩ hw (by decide) o_Ju rfl rfl hl.1 rfl (Nat.le_of_ble_eq_true rfl) d_X_judge_96 ⟨Nat.zero_le _, Nat.zero_le _⟩) hw hA (fun u96 H locs hp hw => ?_)
                    have hu := hp.symm
                    subst hu
                    refine lv_iconst (v := 0) hx hb d_X_judge_99 (by decide) ?_
                    exact x_iret hsz hx hb hr hlk hw (by have e := nI_clamp (n := i) (by omega); have e2 := nI_clamp (n := j) (by omega); simp_all [judX]) d_X_judge_100
                  · refine lv_bipush (v := (-2)) hx hb d_X_judge_86 (by decide) ?_
                    exact x_iret hsz hx hb hr hlk hw (by have e := nI_clamp (n := i) (by omega); have e2 := nI_clamp (n := j) (by omega); simp_all [judX]) d_X_judge_88
          · refine lv_iconst (v := (-1)) hx hb d_X_judge_42 (by decide) ?_
            exact x_iret hsz hx hb hr hlk hw (by simp_all [judX]) d_X_judge_43)
