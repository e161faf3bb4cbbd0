/-! the invariant is kept: document, remove, term, query, judge, depth -/
theorem wi_eq {x a b : Int32} (h : b.toInt = a.toInt + 1) : withinF x a = inF x b := by
  unfold withinF inF
  by_cases c : x < 0
  · rw [if_pos c, if_pos c]
  · rw [if_neg c, if_neg c]
    by_cases c2 : a < x
    · rw [if_pos c2, if_pos (by rw [Int32.le_iff_toInt_le]; rw [Int32.lt_iff_toInt_lt] at c2; omega)]
    · rw [if_neg c2, if_neg (by rw [Int32.le_iff_toInt_le]; rw [Int32.lt_iff_toInt_lt] at c2; omega)]
theorem wi15 (x : Int32) : withinF x 15 = inF x 16 := wi_eq rfl
theorem wi7 (x : Int32) : withinF x 7 = inF x 8 := wi_eq rfl
theorem wi11 (x : Int32) : withinF x 11 = inF x 12 := wi_eq rfl
theorem wi4095 (x : Int32) : withinF x 4095 = inF x 4096 := wi_eq rfl
theorem wi4 (x : Int32) : withinF x 4 = inF x 5 := wi_eq rfl
theorem in_ixN {x : Int32} (N : Nat) {n : Int32} (h : ¬ inF x n = 0) (hn : n = nI N := by rfl) (hN : N < 2 ^ 31 := by decide) : ∃ j : Nat, j < N ∧ x = nI j := vp_in_of (in_in (N := N) h hn hN) hN
theorem holds_th {u : St} (h : Tie u) (d : Int32) : holdsF u d = isThF u d := by
  unfold holdsF isThF
  rw [wi15]
  by_cases c : inF d 16 = 0
  · rw [if_pos c, if_pos c]
  · rw [if_neg c, if_neg c]
    obtain ⟨j, hj, rfl⟩ := in_ixN 16 c
    rw [nI_clamp (by omega), h.there j hj]
theorem IX.mk2 {u w : St} (h : IX u) (hn : ∀ d, d < 16 → ∀ t, t < 12 → 0 ≤ w.1 (22 + d) t) (k2 : w.2.2.1 2 = u.2.2.1 2) (kT : ∀ t, t < 4 → w.1 (63 + t) = u.1 (63 + t)) (h0 : 0 ≤ w.2.2.1 0) : IX w := by
  have en : nX w = nX u := by unfold nX; rw [k2]
  have h4 := h.n4
  exact ⟨hn, by rw [en]; exact h.n4, by rw [k2, en]; exact h.s2, fun t ht j hj => by rw [en] at ht; rw [kT t (by omega)]; exact h.tT t ht j hj, h0⟩
theorem IM.mk2 {u w : St} (h : IM u) (e80 : w.1 80 = u.1 80) (e81 : w.1 81 = u.1 81) (e88 : w.1 88 = u.1 88) (e89 : w.1 89 = u.1 89) (e10 : w.2.2.1 10 = u.2.2.1 10) (e11 : w.2.2.1 11 = u.2.2.1 11) : IM w := by
  have ea : aM w = aM u := by unfold aM; rw [e10]
  have en : nM w = nM u := by unfold nM; rw [e11]
  refine ⟨by rw [ea]; exact h.a16, by rw [e10, ea]; exact h.s10, fun i hi => by rw [e88]; exact h.c88 i hi, fun i hi => by rw [e89]; exact h.c89 i hi, fun j hj => by rw [e80]; exact h.g7 j hj, by rw [e80]; exact h.l16, by rw [en]; exact h.n4, by rw [e11, en]; exact h.s11, ?_⟩
  rw [en, e81]
  exact h.k3
theorem clrF_2 {u : St} {b : Nat} : ∀ n, (clrF u b n).2 = u.2 := by
  intro n
  induction n with
  | zero => rfl
  | succ n ih => exact ih
theorem clrF_ne {u : St} {b k : Nat} (h : k ≠ 78) : ∀ n, (clrF u b n).1 k = u.1 k := by
  intro n
  induction n with
  | zero => rfl
  | succ n ih => simp only [clrF]; rw [sI_ne h]; exact ih
theorem clrF_78 {u : St} {b : Nat} : ∀ n i, (clrF u b n).1 78 i = (if b ≤ i ∧ i < b + n then 0 else u.1 78 i) := by
  intro n
  induction n with
  | zero => intro i; rw [if_neg (show ¬ (b ≤ i ∧ i < b + 0) by omega)]; rfl
  | succ n ih =>
    intro i
    simp only [clrF]
    rw [sI_eq]
    show (if i = b + n then _ else _) = _
    by_cases e : i = b + n
    · rw [if_pos e, if_pos (show b ≤ i ∧ i < b + (n + 1) by omega)]
    · rw [if_neg e, ih i]
      by_cases e2 : b ≤ i ∧ i < b + n
      · rw [if_pos e2, if_pos (show b ≤ i ∧ i < b + (n + 1) by omega)]
      · rw [if_neg e2, if_neg (show ¬ (b ≤ i ∧ i < b + (n + 1)) by omega)]
theorem upd_at {f : Nat → Int32} {j : Nat} {x : Int32} : upd f j x j = x := if_pos rfl
theorem upd_ne {f : Nat → Int32} {j i : Nat} {x : Int32} (h : i ≠ j) : upd f j x i = f i := if_neg h
theorem nI_ge0 {j : Nat} (h : j < 2 ^ 31) : (0 : Int32) ≤ nI j := nI_pos' h
theorem inv_doc {u : St} (h : Inv u) (d q : Int32) : Inv (docM (docX u d q).2 d q).2 ∧ (docX u d q).1 = (docM (docX u d q).2 d q).1 := by
  unfold docX docM
  rw [wi15, wi15]
  by_cases c1 : inF d 16 = 0
  · rw [if_pos c1, if_pos c1]; exact ⟨h, rfl⟩
  · rw [if_neg c1, if_neg c1]
    by_cases c2 : inF q 16 = 0
    · rw [if_pos c2, if_pos c2]; exact ⟨h, rfl⟩
    · rw [if_neg c2, if_neg c2]
      obtain ⟨j, hj, rfl⟩ := in_ixN 16 c1
      rw [nI_clamp (by omega)]
      refine ⟨?_, rfl⟩
      show Inv (clrF (sI (sI (fillF (sI (sI u 9 j 1) 10 j q) (22 + j) 0 12) 76 j 1) 77 j q) (j * 12) 12)
      generalize hw : clrF (sI (sI (fillF (sI (sI u 9 j 1) 10 j q) (22 + j) 0 12) 76 j 1) 77 j q) (j * 12) 12 = w
      have e2 : w.2 = u.2 := by rw [← hw, clrF_2]; rfl
      have eo : ∀ k, k ≠ 9 → k ≠ 10 → k ≠ 76 → k ≠ 77 → k ≠ 78 → k ≠ 22 + j → w.1 k = u.1 k := fun k h1 h2 h3 h4 h5 h6 => by rw [← hw, clrF_ne h5, sI_ne h4, sI_ne h3, fill_ne h6, sI_ne h2, sI_ne h1]
      have e9 : w.1 9 = upd (u.1 9) j 1 := by rw [← hw, clrF_ne (by decide), sI_ne (by decide), sI_ne (by decide), fill_ne (by omega), sI_ne (by decide), sI_eq]
      have e10 : w.1 10 = upd (u.1 10) j q := by rw [← hw, clrF_ne (by decide), sI_ne (by decide), sI_ne (by decide), fill_ne (by omega), sI_eq]; rfl
      have e76 : w.1 76 = upd (u.1 76) j 1 := by rw [← hw, clrF_ne (by decide), sI_ne (by decide), sI_eq, fill_ne (by omega), sI_ne (by decide), sI_ne (by decide)]
      have e77 : w.1 77 = upd (u.1 77) j q := by rw [← hw, clrF_ne (by decide), sI_eq, sI_ne (by decide), fill_ne (by omega), sI_ne (by decide), sI_ne (by decide)]
      have eC : ∀ t, t < 12 → w.1 (22 + j) t = 0 := fun t ht => by rw [← hw, clrF_ne (by omega), sI_ne (by omega), sI_ne (by omega), fill_in ht]
      have e78 : ∀ i, w.1 78 i = (if j * 12 ≤ i ∧ i < j * 12 + 12 then 0 else u.1 78 i) := fun i => by rw [← hw, clrF_78, sI_ne (by decide), sI_ne (by decide), fill_ne (by omega), sI_ne (by decide), sI_ne (by decide)]
      clear hw
      refine ⟨h.x.mk2 (fun a ha t ht => ?_) (by rw [e2]) (fun t ht => eo _ (by omega) (by omega) (by omega) (by omega) (by omega) (by omega)) (by rw [e2]; exact h.x.d0), h.m.mk2 (eo 80 (by decide) (by decide) (by decide) (by decide) (by decide) (by omega)) (eo 81 (by decide) (by decide) (by decide) (by decide) (by decide) (by omega)) (eo 88 (by decide) (by decide) (by decide) (by decide) (by decide) (by omega)) (eo 89 (by decide) (by decide) (by decide) (by decide) (by decide) (by omega)) (by rw [e2]) (by rw [e2]), ?_⟩
      · by_cases e : a = j
        · subst e; rw [eC t ht]; exact Int32.le_refl 0
        · rw [eo _ (by omega) (by omega) (by omega) (by omega) (by omega) (by omega)]; exact h.x.nn a ha t ht
      · have e12 := eo 12 (by decide) (by decide) (by decide) (by decide) (by decide) (by omega)
        have e80 := eo 80 (by decide) (by decide) (by decide) (by decide) (by decide) (by omega)
        refine ⟨fun a ha => ?_, fun a ha => ?_, fun a ha t ht => ?_, fun a ha => ?_, fun a ha => ?_, fun a ha => ?_, ?_, ?_⟩
        · rw [e9, e76]
          by_cases e : a = j
          · subst e; rw [upd_at, upd_at]
          · rw [upd_ne e, upd_ne e]; exact h.t.there a ha
        · rw [e10, e77]
          by_cases e : a = j
          · subst e; rw [upd_at, upd_at]
          · rw [upd_ne e, upd_ne e]; exact h.t.qual a ha
        · rw [e78]
          by_cases e : a = j
          · subst e; rw [eC t ht, if_pos (by omega)]
          · rw [if_neg (by omega), eo _ (by omega) (by omega) (by omega) (by omega) (by omega) (by omega)]; exact h.t.cnt a ha t ht
        · rw [eo 2 (by decide) (by decide) (by decide) (by decide) (by decide) (by omega), eo 79 (by decide) (by decide) (by decide) (by decide) (by decide) (by omega)]; exact h.t.msk a ha
        · rw [e12, e80]; exact h.t.grd a ha
        · rw [e80]; exact h.t.gm a ha
        · rw [e2, e80]; exact h.t.num
        · rw [e2]; exact h.t.dep
theorem inv_rem {u : St} (h : Inv u) (d : Int32) : Inv (remM (remX u d).2 d).2 ∧ (remX u d).1 = (remM (remX u d).2 d).1 := by
  unfold remX
  rw [holds_th h.t]
  by_cases c : isThF u d = 0
  · rw [if_pos c]
    unfold remM
    rw [if_pos c]
    exact ⟨h, rfl⟩
  · rw [if_neg c]
    obtain ⟨j, hj, rfl⟩ := vp_in_of (isTh_in c) (by decide)
    rw [nI_clamp (by omega)]
    have c2 : ¬ isThF (sI u 9 j 0) (nI j) = 0 := c
    unfold remM
    rw [if_neg c2, nI_clamp (by omega)]
    refine ⟨?_, rfl⟩
    show Inv (sI (sI u 9 j 0) 76 j 0)
    generalize hw : sI (sI u 9 j 0) 76 j 0 = w
    have e2 : w.2 = u.2 := by rw [← hw]; rfl
    have eo : ∀ k, k ≠ 9 → k ≠ 76 → w.1 k = u.1 k := fun k h1 h2 => by rw [← hw, sI_ne h2, sI_ne h1]
    have e9 : w.1 9 = upd (u.1 9) j 0 := by rw [← hw, sI_ne (by decide), sI_eq]
    have e76 : w.1 76 = upd (u.1 76) j 0 := by rw [← hw, sI_eq, sI_ne (by decide)]
    clear hw
    refine ⟨h.x.mk2 (fun a ha t ht => by rw [eo _ (by omega) (by omega)]; exact h.x.nn a ha t ht) (by rw [e2]) (fun t ht => eo _ (by omega) (by omega)) (by rw [e2]; exact h.x.d0), h.m.mk2 (eo 80 (by decide) (by decide)) (eo 81 (by decide) (by decide)) (eo 88 (by decide) (by decide)) (eo 89 (by decide) (by decide)) (by rw [e2]) (by rw [e2]), ?_⟩
    refine ⟨fun a ha => ?_, fun a ha => by rw [eo 10 (by decide) (by decide), eo 77 (by decide) (by decide)]; exact h.t.qual a ha, fun a ha t ht => by rw [eo _ (by omega) (by omega), eo 78 (by decide) (by decide)]; exact h.t.cnt a ha t ht, fun a ha => by rw [eo 2 (by decide) (by decide), eo 79 (by decide) (by decide)]; exact h.t.msk a ha, fun a ha => by rw [eo 12 (by decide) (by decide), eo 80 (by decide) (by decide)]; exact h.t.grd a ha, fun a ha => by rw [eo 80 (by decide) (by decide)]; exact h.t.gm a ha, by rw [e2, eo 80 (by decide) (by decide)]; exact h.t.num, by rw [e2]; exact h.t.dep⟩
    rw [e9, e76]
    by_cases e : a = j
    · subst e; rw [upd_at, upd_at]
    · rw [upd_ne e, upd_ne e]; exact h.t.there a ha
theorem inv_term {u : St} (h : Inv u) (d k x : Int32) : Inv (termM (termX u d k x).2 d k x).2 ∧ (termX u d k x).1 = (termM (termX u d k x).2 d k x).1 := by
  unfold termX
  rw [holds_th h.t, wi11, wi15]
  by_cases c : isThF u d = 0
  · rw [if_pos c]
    unfold termM
    rw [if_pos c]
    exact ⟨h, rfl⟩
  · rw [if_neg c]
    obtain ⟨j, hj, rfl⟩ := vp_in_of (isTh_in c) (by decide)
    rw [nI_clamp (n := j) (by omega)]
    by_cases c2 : inF k 12 = 0
    · rw [if_pos c2]
      unfold termM
      rw [if_neg c, if_pos c2]
      exact ⟨h, rfl⟩
    · rw [if_neg c2]
      by_cases c3 : inF x 16 = 0
      · rw [if_pos c3]
        unfold termM
        rw [if_neg c, if_neg c2, if_pos c3]
        exact ⟨h, rfl⟩
      · rw [if_neg c3]
        obtain ⟨i, hi, rfl⟩ := in_ixN 12 c2
        obtain ⟨y, hy, rfl⟩ := in_ixN 16 c3
        rw [nI_clamp (n := i) (by omega)]
        have c4 : ¬ isThF (sI u (22 + j) i (nI y)) (nI j) = 0 := by
          have e : isThF (sI u (22 + j) i (nI y)) (nI j) = isThF u (nI j) := by
            unfold isThF
            rw [sI_ne (by omega)]
          rw [e]; exact c
        unfold termM
        rw [if_neg c4, if_neg c2, if_neg c3, nI_clamp (n := j) (by omega), nI_clamp (n := i) (by omega)]
        refine ⟨?_, rfl⟩
        show Inv (sI (sI u (22 + j) i (nI y)) 78 (j * 12 + i) (nI y))
        generalize hw : sI (sI u (22 + j) i (nI y)) 78 (j * 12 + i) (nI y) = w
        have e2 : w.2 = u.2 := by rw [← hw]; rfl
        have eo : ∀ k, k ≠ 22 + j → k ≠ 78 → w.1 k = u.1 k := fun k h1 h2 => by rw [← hw, sI_ne h2, sI_ne h1]
        have eC : w.1 (22 + j) = upd (u.1 (22 + j)) i (nI y) := by rw [← hw, sI_ne (by omega), sI_eq]
        have e78 : w.1 78 = upd (u.1 78) (j * 12 + i) (nI y) := by rw [← hw, sI_eq, sI_ne (by omega)]
        clear hw
        refine ⟨h.x.mk2 (fun a ha t ht => ?_) (by rw [e2]) (fun t ht => eo _ (by omega) (by omega)) (by rw [e2]; exact h.x.d0), h.m.mk2 (eo 80 (by omega) (by decide)) (eo 81 (by omega) (by decide)) (eo 88 (by omega) (by decide)) (eo 89 (by omega) (by decide)) (by rw [e2]) (by rw [e2]), ?_⟩
        · by_cases e : a = j
          · subst e
            rw [eC]
            by_cases e3 : t = i
            · subst e3; rw [upd_at]; exact nI_ge0 (by omega)
            · rw [upd_ne e3]; exact h.x.nn a ha t ht
          · rw [eo _ (by omega) (by omega)]; exact h.x.nn a ha t ht
        · refine ⟨fun a ha => by rw [eo 9 (by omega) (by decide), eo 76 (by omega) (by decide)]; exact h.t.there a ha, fun a ha => by rw [eo 10 (by omega) (by decide), eo 77 (by omega) (by decide)]; exact h.t.qual a ha, fun a ha t ht => ?_, fun a ha => by rw [eo 2 (by omega) (by decide), eo 79 (by omega) (by decide)]; exact h.t.msk a ha, fun a ha => by rw [eo 12 (by omega) (by decide), eo 80 (by omega) (by decide)]; exact h.t.grd a ha, fun a ha => by rw [eo 80 (by omega) (by decide)]; exact h.t.gm a ha, by rw [e2, eo 80 (by omega) (by decide)]; exact h.t.num, by rw [e2]; exact h.t.dep⟩
          rw [e78]
          by_cases e : a = j
          · subst e
            rw [eC]
            by_cases e3 : t = i
            · subst e3; rw [upd_at, upd_at]
            · rw [upd_ne e3, upd_ne (by omega)]; exact h.t.cnt a ha t ht
          · rw [eo _ (by omega) (by omega), upd_ne (by omega)]; exact h.t.cnt a ha t ht
theorem inv_qry {u : St} (h : Inv u) (q x : Int32) : Inv (qryM (qryX u q x).2 q x).2 ∧ (qryX u q x).1 = (qryM (qryX u q x).2 q x).1 := by
  unfold qryX qryM
  rw [wi7, wi4095]
  by_cases c1 : inF q 8 = 0
  · rw [if_pos c1, if_pos c1]; exact ⟨h, rfl⟩
  · rw [if_neg c1, if_neg c1]
    by_cases c2 : inF x 4096 = 0
    · rw [if_pos c2, if_pos c2]; exact ⟨h, rfl⟩
    · rw [if_neg c2, if_neg c2]
      obtain ⟨j, hj, rfl⟩ := in_ixN 8 c1
      rw [nI_clamp (by omega)]
      refine ⟨?_, rfl⟩
      show Inv (sI (sI u 2 j x) 79 j x)
      generalize hw : sI (sI u 2 j x) 79 j x = w
      have e2 : w.2 = u.2 := by rw [← hw]; rfl
      have eo : ∀ k, k ≠ 2 → k ≠ 79 → w.1 k = u.1 k := fun k h1 h2 => by rw [← hw, sI_ne h2, sI_ne h1]
      have eA : w.1 2 = upd (u.1 2) j x := by rw [← hw, sI_ne (by decide), sI_eq]
      have eB : w.1 79 = upd (u.1 79) j x := by rw [← hw, sI_eq, sI_ne (by decide)]
      clear hw
      refine ⟨h.x.mk2 (fun a ha t ht => by rw [eo _ (by omega) (by omega)]; exact h.x.nn a ha t ht) (by rw [e2]) (fun t ht => eo _ (by omega) (by omega)) (by rw [e2]; exact h.x.d0), h.m.mk2 (eo 80 (by decide) (by decide)) (eo 81 (by decide) (by decide)) (eo 88 (by decide) (by decide)) (eo 89 (by decide) (by decide)) (by rw [e2]) (by rw [e2]), ?_⟩
      refine ⟨fun a ha => by rw [eo 9 (by decide) (by decide), eo 76 (by decide) (by decide)]; exact h.t.there a ha, fun a ha => by rw [eo 10 (by decide) (by decide), eo 77 (by decide) (by decide)]; exact h.t.qual a ha, fun a ha t ht => by rw [eo _ (by omega) (by omega), eo 78 (by decide) (by decide)]; exact h.t.cnt a ha t ht, fun a ha => ?_, fun a ha => by rw [eo 12 (by decide) (by decide), eo 80 (by decide) (by decide)]; exact h.t.grd a ha, fun a ha => by rw [eo 80 (by decide) (by decide)]; exact h.t.gm a ha, by rw [e2, eo 80 (by decide) (by decide)]; exact h.t.num, by rw [e2]; exact h.t.dep⟩
      rw [eA, eB]
      by_cases e : a = j
      · subst e; rw [upd_at, upd_at]
      · rw [upd_ne e, upd_ne e]; exact h.t.msk a ha
theorem inv_dep {u : St} (h : Inv u) (n : Int32) : Inv (depM (depX u n).2 n).2 ∧ (depX u n).1 = (depM (depX u n).2 n).1 := by
  unfold depX depM
  by_cases c1 : n < 1
  · rw [if_pos c1, if_pos c1]; exact ⟨h, rfl⟩
  · rw [if_neg c1, if_neg c1]
    by_cases c2 : n ≤ 16
    · rw [if_pos c2, if_pos c2]
      refine ⟨?_, rfl⟩
      show Inv (sF (sF u 0 n) 10 n)
      have hn0 : ¬ n < 0 := fun q => c1 (by rw [Int32.lt_iff_toInt_lt] at q ⊢; exact Int.lt_trans q (by decide))
      obtain ⟨j, hj, rfl⟩ := nI_of hn0
      have hj16 : j ≤ 16 := (nI_leI (a := j) (b := 16) hj (by decide)).mp c2
      have e0 : (sF (sF u 0 (nI j)) 10 (nI j)).2.2.1 0 = nI j := by rw [sF_ne (by decide), sF_eq]
      have e10 : (sF (sF u 0 (nI j)) 10 (nI j)).2.2.1 10 = nI j := sF_eq
      have eo : ∀ k, k ≠ 0 → k ≠ 10 → (sF (sF u 0 (nI j)) 10 (nI j)).2.2.1 k = u.2.2.1 k := fun k h1 h2 => by rw [sF_ne h2, sF_ne h1]
      have ea : aM (sF (sF u 0 (nI j)) 10 (nI j)) = j := by unfold aM; rw [e10, nI_clamp (by omega)]
      have en : nM (sF (sF u 0 (nI j)) 10 (nI j)) = nM u := by unfold nM; rw [eo 11 (by decide) (by decide)]
      refine ⟨h.x.mk2 h.x.nn (eo 2 (by decide) (by decide)) (fun _ _ => rfl) (by rw [e0]; exact nI_ge0 (by omega)), ⟨by rw [ea]; exact hj16, by rw [e10, ea], h.m.c88, h.m.c89, h.m.g7, h.m.l16, by rw [en]; exact h.m.n4, by rw [eo 11 (by decide) (by decide), en]; exact h.m.s11, by rw [en]; exact h.m.k3⟩, ⟨h.t.there, h.t.qual, h.t.cnt, h.t.msk, h.t.grd, h.t.gm, by rw [eo 1 (by decide) (by decide)]; exact h.t.num, by rw [e0, e10]⟩⟩
    · rw [if_neg c2, if_neg c2]; exact ⟨h, rfl⟩
