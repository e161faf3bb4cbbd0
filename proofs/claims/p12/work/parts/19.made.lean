def adF (l1 : List Nat) (r1 r2 r3 : Nat → Nat) (l2 : List Nat) (k : Nat) : Nat := if k < 22 then l1.getD k 0 else if k < 38 then r1 (k - 22) else if k < 54 then r2 (k - 38) else if k < 59 then r3 (k - 54) else l2.getD (k - 59) 0
theorem adF_1 {l1 : List Nat} {r1 r2 r3 : Nat → Nat} {l2 : List Nat} {j : Nat} (h : j < 16) : adF l1 r1 r2 r3 l2 (22 + j) = r1 j := by
  unfold adF
  rw [if_neg (by omega), if_pos (by omega), show 22 + j - 22 = j by omega]
theorem adF_2 {l1 : List Nat} {r1 r2 r3 : Nat → Nat} {l2 : List Nat} {j : Nat} (h : j < 16) : adF l1 r1 r2 r3 l2 (38 + j) = r2 j := by
  unfold adF
  rw [if_neg (by omega), if_neg (by omega), if_pos (by omega), show 38 + j - 38 = j by omega]
theorem adF_3 {l1 : List Nat} {r1 r2 r3 : Nat → Nat} {l2 : List Nat} {j : Nat} (h : j < 5) : adF l1 r1 r2 r3 l2 (54 + j) = r3 j := by
  unfold adF
  rw [if_neg (by omega), if_neg (by omega), if_neg (by omega), if_pos (by omega), show 54 + j - 54 = j by omega]
theorem xr_eq {ad r : Nat → Nat} {b n : Nat} (h : ∀ j, j < n → ad (b + j) = r j) : xr ad b n = fun i => if i < n then some (r i) else none := by
  funext j
  unfold xr
  by_cases hj : j < n
  · rw [if_pos hj, if_pos hj, h j hj]
  · rw [if_neg hj, if_neg hj]
/-- the first state -/
def u0 : St := (fun k => if k = 12 then fillA (fun _ => 0) (-1) 128 else if k = 80 then fillA (fun _ => 0) (-1) 128 else fun _ => 0, fun _ _ => 0, fun k => if k = 0 then 8 else if k = 4 then 1 else if k = 10 then 8 else 0, fun _ => 0)
def posT : List Nat := [0, 1, 21, 22, 24, 42, 68, 71, 74, 2, 3, 4, 23, 25, 43, 60, 61, 67, 69, 70, 72, 73, 5, 6, 7, 8, 9, 10, 11, 12, 13, 14, 15, 16, 17, 18, 19, 20, 44, 45, 46, 47, 48, 49, 50, 51, 52, 53, 54, 55, 56, 57, 58, 59, 62, 63, 64, 65, 66, 26, 30, 34, 38, 27, 31, 35, 39, 28, 32, 36, 40, 29, 33, 37, 41, 75, 76, 77, 78, 79, 80, 81, 82, 83, 84, 85, 86, 87, 88, 89]
theorem posT_inj : ∀ i, i < 90 → ∀ j, j < 90 → posT.getD i 0 = posT.getD j 0 → i = j := by decide +kernel
def wBig (g : Ids) (h0 q1 q2 q3 q4 q6 q7 q8 q9 q10 q11 q12 q13 q14 q15 q16 q17 q18 q19 q20 q21 q22 q23 q24 q25 q26 q27 q28 q30 q31 q33 q34 q35 q36 q37 q38 q39 q40 m0 m1 m2 m3 m4 m5 m6 m7 m8 m9 m10 m11 m12 m13 m14 : Nat) (r5 r29 r32 : Nat → Nat) : va_W := (((((([(h0, .inr (6, [.ref q1, .ref q6, .ref q7, .ref q9, .ref q27, .ref q34, .ref q37, .ref q40, .int 8])), (q1, .inr (4, [.ref q2, .ref q3, .ref q4])), (q2, .inl (g.2.1, 16, .inl (fun _ => 0))), (q3, .inl (g.1, 16, .inl (fun _ => 0))), (q4, .inl (g.2.2.2.1, 16, .inr (.inr (.inr (.inr (fun i => if i < 16 then some (r5 i) else none))))))] ++ rowsW g r5 16 12) ++ [(q6, .inl (g.1, 8, .inl (fun _ => 0))), (q7, .inr (2, [.ref q8, .int 0])), (q8, .inl (g.1, 128, .inl (fillA (fun _ => 0) (-1) 128))), (q9, .inr (0, [.ref q10, .int 0])), (q10, .inl (g.2.2.2.2, 4, .inr (.inr (.inr (.inr (va_up (va_up (va_up (va_up (fun _ => none) 0 (some q11)) 1 (some q15)) 2 (some q19)) 3 (some q23))))))), (q11, .inr (5, [.ref q12, .ref q13, .ref q14])), (q12, .inl (g.1, 7, .inl (fun _ => 0))), (q13, .inl (g.1, 7, .inl (fun _ => 0))), (q14, .inl (g.2.2.1, 7, .inr (.inl (fun _ => 0)))), (q15, .inr (5, [.ref q16, .ref q17, .ref q18])), (q16, .inl (g.1, 7, .inl (fun _ => 0))), (q17, .inl (g.1, 7, .inl (fun _ => 0))), (q18, .inl (g.2.2.1, 7, .inr (.inl (fun _ => 0)))), (q19, .inr (5, [.ref q20, .ref q21, .ref q22])), (q20, .inl (g.1, 7, .inl (fun _ => 0))), (q21, .inl (g.1, 7, .inl (fun _ => 0))), (q22, .inl (g.2.2.1, 7, .inr (.inl (fun _ => 0)))), (q23, .inr (5, [.ref q24, .ref q25, .ref q26])), (q24, .inl (g.1, 7, .inl (fun _ => 0))), (q25, .inl (g.1, 7, .inl (fun _ => 0))), (q26, .inl (g.2.2.1, 7, .inr (.inl (fun _ => 0)))), (q27, .inr (1, [.ref q28, .ref q30, .ref q31, .int 0, .ref q33, .int 1, .long 0, .int 0, .long 0, .int 0, .int 0])), (q28, .inl (g.2.2.2.1, 16, .inr (.inr (.inr (.inr (fun i => if i < 16 then some (r29 i) else none))))))]) ++ rowsW g r29 16 5) ++ [(q30, .inl (g.2.2.1, 16, .inr (.inl (fun _ => 0)))), (q31, .inl (g.2.2.2.1, 5, .inr (.inr (.inr (.inr (fun i => if i < 5 then some (r32 i) else none))))))]) ++ rowsW g r32 5 16) ++ [(q33, .inl (g.1, 16, .inl (fun _ => 0))), (q34, .inr (3, [.ref q35, .ref q36, .int 0])), (q35, .inl (g.1, 16, .inl (fun _ => 0))), (q36, .inl (g.2.2.1, 16, .inr (.inl (fun _ => 0)))), (q37, .inr (3, [.ref q38, .ref q39, .int 0])), (q38, .inl (g.1, 16, .inl (fun _ => 0))), (q39, .inl (g.2.2.1, 16, .inr (.inl (fun _ => 0)))), (q40, .inl (g.1, 5, .inl (fun _ => 0)))]) ++ [(m0, .inr (7, [.ref m1, .ref m2, .ref m3, .ref m4, .ref m5, .int 8, .ref m6, .ref m7, .ref m8, .ref m9, .int 0, .ref m10, .ref m11, .ref m12, .int 0, .ref m13, .ref m14, .int 0, .long 0, .int 0, .int 0])), (m1, .inl (g.2.1, 16, .inl (fun _ => 0))), (m2, .inl (g.1, 16, .inl (fun _ => 0))), (m3, .inl (g.1, 192, .inl (fun _ => 0))), (m4, .inl (g.1, 8, .inl (fun _ => 0))), (m5, .inl (g.1, 128, .inl (fillA (fun _ => 0) (-1) 128))), (m6, .inl (g.1, 28, .inl (fun _ => 0))), (m7, .inl (g.1, 28, .inl (fun _ => 0))), (m8, .inl (g.1, 28, .inl (fun _ => 0))), (m9, .inl (g.2.2.1, 28, .inr (.inl (fun _ => 0)))), (m10, .inl (g.1, 80, .inl (fun _ => 0))), (m11, .inl (g.1, 16, .inl (fun _ => 0))), (m12, .inl (g.2.2.1, 16, .inr (.inl (fun _ => 0)))), (m13, .inl (g.1, 16, .inl (fun _ => 0))), (m14, .inl (g.1, 16, .inl (fun _ => 0)))]
theorem big_T {h0 q1 q2 q3 q4 q6 q7 q8 q9 q10 q11 q12 q13 q14 q15 q16 q17 q18 q19 q20 q21 q22 q23 q24 q25 q26 q27 q28 q30 q31 q33 q34 q35 q36 q37 q38 q39 q40 m0 m1 m2 m3 m4 m5 m6 m7 m8 m9 m10 m11 m12 m13 m14 : Nat} {r5 r29 r32 : Nat → Nat} : xr (adF [h0, q1, q6, q7, q9, q27, q34, q37, q40, q2, q3, q4, q8, q10, q28, q30, q31, q33, q35, q36, q38, q39] r5 r29 r32 [q11, q15, q19, q23, q12, q16, q20, q24, q13, q17, q21, q25, q14, q18, q22, q26, m0, m1, m2, m3, m4, m5, m6, m7, m8, m9, m10, m11, m12, m13, m14]) 59 4 = (va_up (va_up (va_up (va_up (fun _ => none) 0 (some q11)) 1 (some q15)) 2 (some q19)) 3 (some q23)) := by
  funext j
  match j with
  | 0 => rfl
  | 1 => rfl
  | 2 => rfl
  | 3 => rfl
  | j + 4 => simp [xr, va_up]
set_option maxRecDepth 100000 in
set_option maxHeartbeats 4000000 in
theorem big_key {g : Ids} {h0 q1 q2 q3 q4 q6 q7 q8 q9 q10 q11 q12 q13 q14 q15 q16 q17 q18 q19 q20 q21 q22 q23 q24 q25 q26 q27 q28 q30 q31 q33 q34 q35 q36 q37 q38 q39 q40 m0 m1 m2 m3 m4 m5 m6 m7 m8 m9 m10 m11 m12 m13 m14 : Nat} {r5 r29 r32 : Nat → Nat} : ∀ k, k < 90 → (wBig g h0 q1 q2 q3 q4 q6 q7 q8 q9 q10 q11 q12 q13 q14 q15 q16 q17 q18 q19 q20 q21 q22 q23 q24 q25 q26 q27 q28 q30 q31 q33 q34 q35 q36 q37 q38 q39 q40 m0 m1 m2 m3 m4 m5 m6 m7 m8 m9 m10 m11 m12 m13 m14 r5 r29 r32)[posT.getD k 0]? = some ((adF [h0, q1, q6, q7, q9, q27, q34, q37, q40, q2, q3, q4, q8, q10, q28, q30, q31, q33, q35, q36, q38, q39] r5 r29 r32 [q11, q15, q19, q23, q12, q16, q20, q24, q13, q17, q21, q25, q14, q18, q22, q26, m0, m1, m2, m3, m4, m5, m6, m7, m8, m9, m10, m11, m12, m13, m14]) k, xc g (adF [h0, q1, q6, q7, q9, q27, q34, q37, q40, q2, q3, q4, q8, q10, q28, q30, q31, q33, q35, q36, q38, q39] r5 r29 r32 [q11, q15, q19, q23, q12, q16, q20, q24, q13, q17, q21, q25, q14, q18, q22, q26, m0, m1, m2, m3, m4, m5, m6, m7, m8, m9, m10, m11, m12, m13, m14]) u0 k) := by
  intro k hk
  match k, hk with
  | 0, _ => rfl
  | 1, _ => rfl
  | 2, _ => rfl
  | 3, _ => rfl
  | 4, _ => rfl
  | 5, _ => rfl
  | 6, _ => rfl
  | 7, _ => rfl
  | 8, _ => rfl
  | 9, _ => rfl
  | 10, _ => rfl
  | 11, _ => rw [show xc g (adF [h0, q1, q6, q7, q9, q27, q34, q37, q40, q2, q3, q4, q8, q10, q28, q30, q31, q33, q35, q36, q38, q39] r5 r29 r32 [q11, q15, q19, q23, q12, q16, q20, q24, q13, q17, q21, q25, q14, q18, q22, q26, m0, m1, m2, m3, m4, m5, m6, m7, m8, m9, m10, m11, m12, m13, m14]) u0 11 = .inl (g.2.2.2.1, 16, .inr (.inr (.inr (.inr (xr (adF [h0, q1, q6, q7, q9, q27, q34, q37, q40, q2, q3, q4, q8, q10, q28, q30, q31, q33, q35, q36, q38, q39] r5 r29 r32 [q11, q15, q19, q23, q12, q16, q20, q24, q13, q17, q21, q25, q14, q18, q22, q26, m0, m1, m2, m3, m4, m5, m6, m7, m8, m9, m10, m11, m12, m13, m14]) 22 16))))) from rfl, xr_eq (r := r5) (fun j hj => adF_1 hj)]; rfl
  | 12, _ => rfl
  | 13, _ => rw [show xc g (adF [h0, q1, q6, q7, q9, q27, q34, q37, q40, q2, q3, q4, q8, q10, q28, q30, q31, q33, q35, q36, q38, q39] r5 r29 r32 [q11, q15, q19, q23, q12, q16, q20, q24, q13, q17, q21, q25, q14, q18, q22, q26, m0, m1, m2, m3, m4, m5, m6, m7, m8, m9, m10, m11, m12, m13, m14]) u0 13 = .inl (g.2.2.2.2, 4, .inr (.inr (.inr (.inr (xr (adF [h0, q1, q6, q7, q9, q27, q34, q37, q40, q2, q3, q4, q8, q10, q28, q30, q31, q33, q35, q36, q38, q39] r5 r29 r32 [q11, q15, q19, q23, q12, q16, q20, q24, q13, q17, q21, q25, q14, q18, q22, q26, m0, m1, m2, m3, m4, m5, m6, m7, m8, m9, m10, m11, m12, m13, m14]) 59 4))))) from rfl, big_T]; rfl
  | 14, _ => rw [show xc g (adF [h0, q1, q6, q7, q9, q27, q34, q37, q40, q2, q3, q4, q8, q10, q28, q30, q31, q33, q35, q36, q38, q39] r5 r29 r32 [q11, q15, q19, q23, q12, q16, q20, q24, q13, q17, q21, q25, q14, q18, q22, q26, m0, m1, m2, m3, m4, m5, m6, m7, m8, m9, m10, m11, m12, m13, m14]) u0 14 = .inl (g.2.2.2.1, 16, .inr (.inr (.inr (.inr (xr (adF [h0, q1, q6, q7, q9, q27, q34, q37, q40, q2, q3, q4, q8, q10, q28, q30, q31, q33, q35, q36, q38, q39] r5 r29 r32 [q11, q15, q19, q23, q12, q16, q20, q24, q13, q17, q21, q25, q14, q18, q22, q26, m0, m1, m2, m3, m4, m5, m6, m7, m8, m9, m10, m11, m12, m13, m14]) 38 16))))) from rfl, xr_eq (r := r29) (fun j hj => adF_2 hj)]; rfl
  | 15, _ => rfl
  | 16, _ => rw [show xc g (adF [h0, q1, q6, q7, q9, q27, q34, q37, q40, q2, q3, q4, q8, q10, q28, q30, q31, q33, q35, q36, q38, q39] r5 r29 r32 [q11, q15, q19, q23, q12, q16, q20, q24, q13, q17, q21, q25, q14, q18, q22, q26, m0, m1, m2, m3, m4, m5, m6, m7, m8, m9, m10, m11, m12, m13, m14]) u0 16 = .inl (g.2.2.2.1, 5, .inr (.inr (.inr (.inr (xr (adF [h0, q1, q6, q7, q9, q27, q34, q37, q40, q2, q3, q4, q8, q10, q28, q30, q31, q33, q35, q36, q38, q39] r5 r29 r32 [q11, q15, q19, q23, q12, q16, q20, q24, q13, q17, q21, q25, q14, q18, q22, q26, m0, m1, m2, m3, m4, m5, m6, m7, m8, m9, m10, m11, m12, m13, m14]) 54 5))))) from rfl, xr_eq (r := r32) (fun j hj => adF_3 hj)]; rfl
  | 17, _ => rfl
  | 18, _ => rfl
  | 19, _ => rfl
  | 20, _ => rfl
  | 21, _ => rfl
  | 22, _ => rfl
  | 23, _ => rfl
  | 24, _ => rfl
  | 25, _ => rfl
  | 26, _ => rfl
  | 27, _ => rfl
  | 28, _ => rfl
  | 29, _ => rfl
  | 30, _ => rfl
  | 31, _ => rfl
  | 32, _ => rfl
  | 33, _ => rfl
  | 34, _ => rfl
  | 35, _ => rfl
  | 36, _ => rfl
  | 37, _ => rfl
  | 38, _ => rfl
  | 39, _ => rfl
  | 40, _ => rfl
  | 41, _ => rfl
  | 42, _ => rfl
  | 43, _ => rfl
  | 44, _ => rfl
  | 45, _ => rfl
  | 46, _ => rfl
  | 47, _ => rfl
  | 48, _ => rfl
  | 49, _ => rfl
  | 50, _ => rfl
  | 51, _ => rfl
  | 52, _ => rfl
  | 53, _ => rfl
  | 54, _ => rfl
  | 55, _ => rfl
  | 56, _ => rfl
  | 57, _ => rfl
  | 58, _ => rfl
  | 59, _ => rfl
  | 60, _ => rfl
  | 61, _ => rfl
  | 62, _ => rfl
  | 63, _ => rfl
  | 64, _ => rfl
  | 65, _ => rfl
  | 66, _ => rfl
  | 67, _ => rfl
  | 68, _ => rfl
  | 69, _ => rfl
  | 70, _ => rfl
  | 71, _ => rfl
  | 72, _ => rfl
  | 73, _ => rfl
  | 74, _ => rfl
  | 75, _ => rfl
  | 76, _ => rfl
  | 77, _ => rfl
  | 78, _ => rfl
  | 79, _ => rfl
  | 80, _ => rfl
  | 81, _ => rfl
  | 82, _ => rfl
  | 83, _ => rfl
  | 84, _ => rfl
  | 85, _ => rfl
  | 86, _ => rfl
  | 87, _ => rfl
  | 88, _ => rfl
  | 89, _ => rfl
  | k + 90, hk => exact absurd hk (by omega)
theorem made {D : va_G} {g : Ids} {A : Nat → Prop} {s : State} {H0 H : Heap} {locs : List Loc} {h0 q1 q2 q3 q4 q6 q7 q8 q9 q10 q11 q12 q13 q14 q15 q16 q17 q18 q19 q20 q21 q22 q23 q24 q25 q26 q27 q28 q30 q31 q33 q34 q35 q36 q37 q38 q39 q40 m0 m1 m2 m3 m4 m5 m6 m7 m8 m9 m10 m11 m12 m13 m14 : Nat} {r5 r29 r32 : Nat → Nat} (hw : YH D g A s H0 H locs (wBig g h0 q1 q2 q3 q4 q6 q7 q8 q9 q10 q11 q12 q13 q14 q15 q16 q17 q18 q19 q20 q21 q22 q23 q24 q25 q26 q27 q28 q30 q31 q33 q34 q35 q36 q37 q38 q39 q40 m0 m1 m2 m3 m4 m5 m6 m7 m8 m9 m10 m11 m12 m13 m14 r5 r29 r32)) : ∃ ad : Nat → Nat, ad 0 = h0 ∧ ad 75 = m0 ∧ XH D g ad A s H0 H locs u0 := by
  obtain ⟨hK, hP, hD, hS, hN⟩ := hw
  refine ⟨(adF [h0, q1, q6, q7, q9, q27, q34, q37, q40, q2, q3, q4, q8, q10, q28, q30, q31, q33, q35, q36, q38, q39] r5 r29 r32 [q11, q15, q19, q23, q12, q16, q20, q24, q13, q17, q21, q25, q14, q18, q22, q26, m0, m1, m2, m3, m4, m5, m6, m7, m8, m9, m10, m11, m12, m13, m14]), rfl, rfl, hK, fun k q hk => ?_, ⟨fun i j x z hi hj he => ?_, fun k q hk => ?_⟩, hS, hN.1⟩
  · have h9 := (wX_in hk).1
    rw [wX_get h9] at hk
    cases hk
    exact hP _ _ (big_key k h9)
  · have h8 := wX_in hi
    have h9 := wX_in hj
    exact posT_inj i h8.1 j h9.1 (hD.1 _ _ _ _ (big_key i h8.1) (big_key j h9.1) (by show _ = _; rw [← h8.2, ← h9.2]; exact he))
  · have h9 := wX_in hk
    have := hD.2 _ _ (big_key k h9.1)
    rw [h9.2]
    exact this
