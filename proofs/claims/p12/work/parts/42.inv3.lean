/-! the invariant is kept: judge; and it holds at first -/
theorem gi_lt {x : Int32} (h : -1 ≤ x) : x < 0 ↔ x = -1 := by
  rw [Int32.le_iff_toInt_le] at h
  rw [Int32.lt_iff_toInt_lt]
  have e1 : (-1 : Int32).toInt = -1 := rfl
  have e0 : (0 : Int32).toInt = 0 := rfl
  rw [e1] at h
  rw [e0]
  constructor
  · intro q
    apply Int32.toInt_inj.mp
    rw [e1]
    omega
  · intro q
    rw [q, e1]
    decide
/-- the state behind a judgement on both sides -/
theorem inv_jset {u : St} (h : Inv u) {j : Nat} (hj : j < 128) {x : Int32} (hx1 : -1 ≤ x) (hx7 : x ≤ 7) (hroom : u.1 80 j < 0 → ¬ x < 0 → gcN (u.1 80) 128 < 16) : Inv (sI (jsetF u j x) 80 j x) := by
  have hg := h.t.gm j hj
  have h12 : u.1 12 j = u.1 80 j := h.t.grd j hj
  have hU := gc_upd (f := u.1 80) (j := j) (x := x) 128 hj
  have hl := h.m.l16
  have e1 : (jsetF u j x).1 = (sI u 12 j x).1 := by
    unfold jsetF jset2 jset1
    repeat' split
    all_goals rfl
  have e21 : (jsetF u j x).2.1 = u.2.1 := by
    unfold jsetF jset2 jset1
    repeat' split
    all_goals rfl
  have eF : ∀ k, k ≠ 1 → (jsetF u j x).2.2.1 k = u.2.2.1 k := by
    intro k hk
    unfold jsetF
    show (jset2 (jset1 u j) x).2.2.1 k = _
    unfold jset2 jset1
    split
    · split
      · rfl
      · rw [sF_ne hk]
    · split
      · rw [sF_ne hk]
      · rw [sF_ne hk, sF_ne hk]
  have hnum : (jsetF u j x).2.2.1 1 = nI (gcN (upd (u.1 80) j x) 128) := by
    have e : (jsetF u j x).2.2.1 1 = (if x = -1 then (if u.1 12 j = -1 then u.2.2.1 1 else u.2.2.1 1 - 1) else (if u.1 12 j = -1 then u.2.2.1 1 else u.2.2.1 1 - 1) + 1) := by
      unfold jsetF
      show (jset2 (jset1 u j) x).2.2.1 1 = _
      unfold jset2 jset1
      by_cases a : x = -1
      · rw [if_pos a, if_pos a]
        by_cases b : u.1 12 j = -1
        · rw [if_pos b, if_pos b]
        · rw [if_neg b, if_neg b, sF_eq]
      · rw [if_neg a, if_neg a, sF_eq]
        by_cases b : u.1 12 j = -1
        · rw [if_pos b, if_pos b]
        · rw [if_neg b, if_neg b, sF_eq]
    rw [e, h12, h.t.num]
    by_cases a : x = -1
    · rw [if_pos a]
      have a' : x < 0 := (gi_lt hx1).mpr a
      rw [if_pos a'] at hU
      by_cases b : u.1 80 j = -1
      · rw [if_pos b]
        rw [if_pos ((gi_lt hg).mpr b)] at hU
        rw [show gcN (upd (u.1 80) j x) 128 = gcN (u.1 80) 128 by omega]
      · rw [if_neg b]
        rw [if_neg (fun q => b ((gi_lt hg).mp q))] at hU
        rw [show gcN (u.1 80) 128 = gcN (upd (u.1 80) j x) 128 + 1 by omega]
        exact nI_pred _
    · rw [if_neg a]
      have a' : ¬ x < 0 := fun q => a ((gi_lt hx1).mp q)
      rw [if_neg a'] at hU
      by_cases b : u.1 80 j = -1
      · rw [if_pos b]
        rw [if_pos ((gi_lt hg).mpr b)] at hU
        rw [show gcN (upd (u.1 80) j x) 128 = gcN (u.1 80) 128 + 1 by omega]
        exact nI_1 _
      · rw [if_neg b]
        rw [if_neg (fun q => b ((gi_lt hg).mp q))] at hU
        have e9 : gcN (upd (u.1 80) j x) 128 = gcN (u.1 80) 128 := by omega
        rw [e9]
        have hp : 0 < gcN (u.1 80) 128 := by
          rcases Nat.eq_zero_or_pos (gcN (u.1 80) 128) with z | z
          · exfalso
            have hV := gc_upd (f := u.1 80) (j := j) (x := -1) 128 hj
            rw [if_neg (fun q => b ((gi_lt hg).mp q)), if_pos (by decide), z] at hV
            omega
          · exact z
        obtain ⟨r, hr⟩ : ∃ r, gcN (u.1 80) 128 = r + 1 := ⟨gcN (u.1 80) 128 - 1, by omega⟩
        rw [hr, nI_pred]
        exact nI_1 _
  have hc16 : gcN (upd (u.1 80) j x) 128 ≤ 16 := by
    by_cases a : x < 0
    · rw [if_pos a] at hU
      split at hU <;> omega
    · rw [if_neg a] at hU
      split at hU
      · rename_i b
        have := hroom b a
        omega
      · omega
  generalize hw : sI (jsetF u j x) 80 j x = w
  have eo : ∀ k, k ≠ 12 → k ≠ 80 → w.1 k = u.1 k := fun k h1 h2 => by rw [← hw, sI_ne h2, e1, sI_ne h1]
  have e12 : w.1 12 = upd (u.1 12) j x := by rw [← hw, sI_ne (by decide), e1, sI_eq]
  have e80 : w.1 80 = upd (u.1 80) j x := by rw [← hw, sI_eq, e1, sI_ne (by decide)]
  have ef : ∀ k, k ≠ 1 → w.2.2.1 k = u.2.2.1 k := fun k hk => by rw [← hw]; exact eF k hk
  have e9 : w.2.2.1 1 = nI (gcN (upd (u.1 80) j x) 128) := by rw [← hw]; exact hnum
  clear hw hnum
  have ea : aM w = aM u := by unfold aM; rw [ef 10 (by decide)]
  have en : nM w = nM u := by unfold nM; rw [ef 11 (by decide)]
  refine ⟨h.x.mk2 (fun a ha t ht => by rw [eo _ (by omega) (by omega)]; exact h.x.nn a ha t ht) (ef 2 (by decide)) (fun t ht => eo _ (by omega) (by omega)) (by rw [ef 0 (by decide)]; exact h.x.d0), ⟨by rw [ea]; exact h.m.a16, by rw [ef 10 (by decide), ea]; exact h.m.s10, fun i hi => by rw [eo 88 (by decide) (by decide)]; exact h.m.c88 i hi, fun i hi => by rw [eo 89 (by decide) (by decide)]; exact h.m.c89 i hi, fun i hi => ?_, by rw [e80]; exact hc16, by rw [en]; exact h.m.n4, by rw [ef 11 (by decide), en]; exact h.m.s11, by rw [en, eo 81 (by decide) (by decide)]; exact h.m.k3⟩, ⟨fun a ha => by rw [eo 9 (by decide) (by decide), eo 76 (by decide) (by decide)]; exact h.t.there a ha, fun a ha => by rw [eo 10 (by decide) (by decide), eo 77 (by decide) (by decide)]; exact h.t.qual a ha, fun a ha t ht => by rw [eo _ (by omega) (by omega), eo 78 (by decide) (by decide)]; exact h.t.cnt a ha t ht, fun a ha => by rw [eo 2 (by decide) (by decide), eo 79 (by decide) (by decide)]; exact h.t.msk a ha, fun a ha => ?_, fun a ha => ?_, by rw [e9, e80], by rw [ef 0 (by decide), ef 10 (by decide)]; exact h.t.dep⟩⟩
  · rw [e80]
    by_cases e : i = j
    · subst e; rw [upd_at]; exact hx7
    · rw [upd_ne e]; exact h.m.g7 i hi
  · rw [e12, e80]
    by_cases e : a = j
    · subst e; rw [upd_at, upd_at]
    · rw [upd_ne e, upd_ne e]; exact h.t.grd a ha
  · rw [e80]
    by_cases e : a = j
    · subst e; rw [upd_at]; exact hx1
    · rw [upd_ne e]; exact h.t.gm a ha
theorem jset_80 {u : St} {j : Nat} {x : Int32} : (jsetF u j x).1 80 = u.1 80 := by
  unfold jsetF jset2 jset1
  rw [sI_ne (by decide)]
  repeat' split
  all_goals rfl
theorem inv_jud {u : St} (h : Inv u) (q d x : Int32) : Inv (judM (judX u q d x).2 q d x).2 ∧ (judX u q d x).1 = (judM (judX u q d x).2 q d x).1 := by
  have m1 : (-1 : Int32).toInt = -1 := rfl
  have z0 : (0 : Int32).toInt = 0 := rfl
  have z7 : (7 : Int32).toInt = 7 := rfl
  unfold judX
  rw [wi7, wi15]
  by_cases c1 : inF q 8 = 0
  · rw [if_pos c1]
    unfold judM
    rw [if_pos c1]
    exact ⟨h, rfl⟩
  · rw [if_neg c1]
    by_cases c2 : inF d 16 = 0
    · rw [if_pos c2]
      unfold judM
      rw [if_neg c1, if_pos c2]
      exact ⟨h, rfl⟩
    · rw [if_neg c2]
      obtain ⟨i, hi, rfl⟩ := in_ixN 8 c1
      obtain ⟨k, hk, rfl⟩ := in_ixN 16 c2
      rw [nI_clamp (n := i) (by omega), nI_clamp (n := k) (by omega)]
      have hj : i * 16 + k < 128 := by omega
      by_cases c3 : x = -1
      · rw [if_pos c3]
        subst c3
        have e : judM (jsetF u (i * 16 + k) (-1)) (nI i) (nI k) (-1) = (0, sI (jsetF u (i * 16 + k) (-1)) 80 (i * 16 + k) (-1)) := by
          unfold judM
          rw [if_neg c1, if_neg c2, if_neg (show ¬ ((-1 : Int32) < -1) by decide), if_pos (show ((-1 : Int32) ≤ 7) by decide), nI_clamp (n := i) (by omega), nI_clamp (n := k) (by omega)]
          split
          · rfl
          · rw [if_pos (show ((-1 : Int32) < 0) by decide)]
        show Inv (judM (jsetF u (i * 16 + k) (-1)) (nI i) (nI k) (-1)).2 ∧ (0 : Int32) = (judM (jsetF u (i * 16 + k) (-1)) (nI i) (nI k) (-1)).1
        rw [e]
        exact ⟨inv_jset h hj (by decide) (by decide) (fun _ q => absurd (show ((-1 : Int32) < 0) by decide) q), rfl⟩
      · rw [if_neg c3]
        by_cases c4 : withinF x 7 = 0
        · rw [if_pos c4]
          show Inv (judM u (nI i) (nI k) x).2 ∧ (-1 : Int32) = (judM u (nI i) (nI k) x).1
          unfold judM
          rw [if_neg c1, if_neg c2]
          by_cases c5 : x < -1
          · rw [if_pos c5]; exact ⟨h, rfl⟩
          · rw [if_neg c5, if_neg (fun c6 => ?_)]
            · exact ⟨h, rfl⟩
            · rw [wi7] at c4
              unfold inF at c4
              rw [Int32.lt_iff_toInt_lt, m1] at c5
              have n1 : x.toInt ≠ -1 := fun q => c3 (Int32.toInt_inj.mp (by rw [q, m1]))
              rw [Int32.le_iff_toInt_le, z7] at c6
              rw [if_neg (by rw [Int32.lt_iff_toInt_lt, z0]; omega), if_neg (by rw [Int32.le_iff_toInt_le]; show ¬ (8 : Int32).toInt ≤ _; rw [show (8 : Int32).toInt = 8 from rfl]; omega)] at c4
              exact absurd c4 (by decide)
        · rw [if_neg c4]
          have hx0 : ¬ x < 0 := fun q => c4 (withinF_n q)
          have hx7' : ¬ 7 < x := fun q => c4 (withinF_g q)
          have hx7 : x ≤ 7 := le_nlt hx7'
          have hx1 : -1 ≤ x := by
            rw [Int32.le_iff_toInt_le, m1]
            rw [Int32.lt_iff_toInt_lt, z0] at hx0
            omega
          have hxn : ¬ x < -1 := by
            rw [Int32.lt_iff_toInt_lt, m1]
            rw [Int32.lt_iff_toInt_lt, z0] at hx0
            omega
          have h12 : u.1 12 (i * 16 + k) = u.1 80 (i * 16 + k) := h.t.grd _ hj
          have hg := h.t.gm _ hj
          have hl := h.m.l16
          have hset : ∀ w : St, w.1 80 (i * 16 + k) = u.1 80 (i * 16 + k) → posF (w.1 80) 128 = posF (u.1 80) 128 → (0 ≤ u.1 80 (i * 16 + k) ∨ gcN (u.1 80) 128 < 16) → judM w (nI i) (nI k) x = (0, sI w 80 (i * 16 + k) x) := by
            intro w e1 e2 hr
            unfold judM
            rw [if_neg c1, if_neg c2, if_neg hxn, if_pos hx7, nI_clamp (n := i) (by omega), nI_clamp (n := k) (by omega), e1, e2]
            by_cases c6 : 0 ≤ u.1 80 (i * 16 + k)
            · rw [if_pos c6]
            · rw [if_neg c6, if_neg hx0, if_neg (fun q => ?_)]
              rw [pos_gc] at q
              have := (nI_eq (a := gcN (u.1 80) 128) (b := 16) (by omega) (by omega)).mp q
              rcases hr with z | z
              · exact c6 z
              · omega
          by_cases c5 : u.1 12 (i * 16 + k) = -1
          · rw [if_pos c5]
            have c80 : u.1 80 (i * 16 + k) < 0 := (gi_lt hg).mpr (h12 ▸ c5)
            rw [h.t.num]
            by_cases c6 : nI (gcN (u.1 80) 128) < 16
            · rw [if_pos c6]
              have c7 : gcN (u.1 80) 128 < 16 := (nI_ltI (a := gcN (u.1 80) 128) (b := 16) (by omega) (by omega)).mp c6
              show Inv (judM (jsetF u (i * 16 + k) x) (nI i) (nI k) x).2 ∧ (0 : Int32) = (judM (jsetF u (i * 16 + k) x) (nI i) (nI k) x).1
              rw [hset (jsetF u (i * 16 + k) x) (by rw [jset_80]) (by rw [jset_80]) (Or.inr c7)]
              exact ⟨inv_jset h hj hx1 hx7 (fun _ _ => c7), rfl⟩
            · rw [if_neg c6]
              have c7 : ¬ gcN (u.1 80) 128 < 16 := fun z => c6 ((nI_ltI (a := gcN (u.1 80) 128) (b := 16) (by omega) (by omega)).mpr z)
              show Inv (judM u (nI i) (nI k) x).2 ∧ (-2 : Int32) = (judM u (nI i) (nI k) x).1
              have e : judM u (nI i) (nI k) x = (-2, u) := by
                unfold judM
                rw [if_neg c1, if_neg c2, if_neg hxn, if_pos hx7, nI_clamp (n := i) (by omega), nI_clamp (n := k) (by omega), if_neg (fun q => absurd c80 (gez q)), if_neg hx0, pos_gc, show gcN (u.1 80) 128 = 16 by omega, if_pos (show nI 16 = 16 from rfl)]
              rw [e]
              exact ⟨h, rfl⟩
          · rw [if_neg c5]
            have c80 : 0 ≤ u.1 80 (i * 16 + k) := by
              have : ¬ u.1 80 (i * 16 + k) < 0 := fun z => c5 (h12.trans ((gi_lt hg).mp z))
              exact le_nlt this
            show Inv (judM (jsetF u (i * 16 + k) x) (nI i) (nI k) x).2 ∧ (0 : Int32) = (judM (jsetF u (i * 16 + k) x) (nI i) (nI k) x).1
            rw [hset (jsetF u (i * 16 + k) x) (by rw [jset_80]) (by rw [jset_80]) (Or.inl c80)]
            exact ⟨inv_jset h hj hx1 hx7 (fun z _ => absurd z (gez c80)), rfl⟩
theorem u0_gr : ∀ j, j < 128 → u0.1 80 j = -1 := by
  intro j hj
  show fillA (fun _ => 0) (-1) 128 j = -1
  exact if_pos hj
theorem u0_gc : ∀ n, n ≤ 128 → gcN (u0.1 80) n = 0 := by
  intro n
  induction n with
  | zero => intro _; rfl
  | succ n ih =>
    intro hn
    simp only [gcN]
    rw [u0_gr n (by omega), if_pos (by decide), ih (by omega)]
theorem inv_u0 : Inv u0 := by
  have z0 : ∀ k, k ≠ 12 → k ≠ 80 → ∀ j, u0.1 k j = 0 := fun k h1 h2 j => by
    show (if k = 12 then _ else if k = 80 then _ else _ : Nat → Int32) j = 0
    rw [if_neg h1, if_neg h2]
  refine ⟨⟨fun d hd t ht => by rw [z0 _ (by omega) (by omega)]; exact Int32.le_refl 0, by decide, by decide, fun t ht => absurd ht (by rw [show nX u0 = 0 from rfl]; omega), by decide⟩, ⟨by decide, by decide, fun i hi => ⟨0, by omega, by rw [z0 _ (by decide) (by decide)]; rfl⟩, fun i hi => ⟨0, by omega, by rw [z0 _ (by decide) (by decide)]; rfl⟩, fun j hj => by rw [u0_gr j hj]; decide, by rw [u0_gc 128 (Nat.le_refl 128)]; omega, by decide, by decide, fun t ht => absurd ht (by rw [show nM u0 = 0 from rfl]; omega)⟩, ⟨fun d hd => by rw [z0 _ (by decide) (by decide), z0 _ (by decide) (by decide)], fun d hd => by rw [z0 _ (by decide) (by decide), z0 _ (by decide) (by decide)], fun d hd t ht => by rw [z0 _ (by omega) (by omega), z0 _ (by decide) (by decide)], fun d hd => by rw [z0 _ (by decide) (by decide), z0 _ (by decide) (by decide)], fun j hj => by rw [u0_gr j hj]; exact if_pos hj, fun j hj => by rw [u0_gr j hj]; decide, by rw [u0_gc 128 (Nat.le_refl 128)]; rfl, rfl⟩⟩
