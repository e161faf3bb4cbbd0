/-! count: every what but -8 .. -1 (the TERMS of a query) is answered alike -/
theorem c2_keep {u : St} {x : Int32} (h1 : ¬ x = 1) (h2 : ¬ x = 2) (h3 : ¬ x = 10000) : ∀ j, c2F u x j = c1F u x 16 := by
  intro j
  induction j with
  | zero => rfl
  | succ j ih =>
    simp only [c2F]
    rw [if_neg h1, if_neg h2, if_neg h3, ih]
    split <;> rfl
theorem c1_keep {u : St} {x : Int32} (h1 : ¬ x = 0) (h2 : ¬ x = 1000) : ∀ t, c1F u x t = 0 := by
  intro t
  induction t with
  | zero => rfl
  | succ t ih =>
    simp only [c1F]
    rw [if_neg h1, if_neg h2, ih]
    split <;> rfl
theorem c1_0 {u : St} (h : Tie u) : ∀ t, t ≤ 16 → c1F u 0 t = cntF (u.1 9) t := by
  intro t
  induction t with
  | zero => intro _; rfl
  | succ t ih =>
    intro ht
    simp only [c1F, cntF]
    rw [ih (by omega), h.there t (by omega), if_neg (show ¬ (0 : Int32) = 1000 by decide), if_pos True.intro]
theorem c1_1000 {u : St} (h : Tie u) : ∀ t, t ≤ 16 → c1F u 1000 t = sizesF u t := by
  intro t
  induction t with
  | zero => intro _; rfl
  | succ t ih =>
    intro ht
    simp only [c1F, sizesF]
    rw [ih (by omega), h.there t (by omega), if_pos True.intro, if_neg (show ¬ (1000 : Int32) = 0 by decide)]
    have e : ftM u 0 t 2 = sumF (u.1 (22 + t)) 12 := by
      unfold ftM featF
      rw [if_neg (by decide), if_neg (by decide), if_neg (by decide), if_pos rfl]
      exact sum_c 12 (fun i hi => (h.cnt t (by omega) i hi).symm)
    rw [e]
theorem c2_1 {u : St} (h : Tie u) : ∀ j, c2F u 1 j = posF (u.1 80) j := by
  intro j
  induction j with
  | zero => exact c1_keep (by decide) (by decide) 16
  | succ j ih =>
    simp only [c2F, posF]
    rw [ih, if_neg (show ¬ (1 : Int32) = 10000 by decide), if_pos True.intro]
    by_cases c : u.1 80 j < 0
    · rw [if_pos c, if_neg (fun z => absurd c (gez z))]
    · rw [if_neg c, if_pos (le_nlt c)]
theorem c2_10000 {u : St} (h : Tie u) : ∀ j, j ≤ 128 → c2F u 10000 j = gsumF (u.1 12) j := by
  intro j
  induction j with
  | zero => intro _; exact c1_keep (by decide) (by decide) 16
  | succ j ih =>
    intro hj
    simp only [c2F, gsumF]
    rw [ih (by omega), if_pos True.intro, if_neg (show ¬ (10000 : Int32) = 1 by decide), if_neg (show ¬ (10000 : Int32) = 2 by decide), h.grd j (by omega)]
    have hg := gi_lt (h.gm j (by omega))
    by_cases c : u.1 80 j = -1
    · rw [if_pos c, if_neg (fun z => absurd (hg.mpr c) (gez z))]
    · rw [if_neg c, if_pos (le_nlt (fun z => c (hg.mp z)))]
theorem c2_2r {u : St} (hI : Inv u) {q : Nat} (hq : q < 8) {a : Int32} (ha : c2F u 2 (q * 16) = a) : ∀ d, d ≤ 16 → c2F u 2 (q * 16 + d) = lrowF u q a d := by
  intro d
  induction d with
  | zero => intro _; exact ha
  | succ d ih =>
    intro hd
    show c2F u 2 (q * 16 + d + 1) = _
    simp only [c2F, lrowF]
    rw [ih (by omega), if_neg (show ¬ (2 : Int32) = 10000 by decide), if_neg (show ¬ (2 : Int32) = 1 by decide), if_pos True.intro, show (q * 16 + d) % 16 = d by omega]
    have hl := live_eq hI (Same.rf : KM u u) (fun _ _ _ => rfl) hq (show d < 16 by omega)
    by_cases c : liveF u q d = 0
    · rw [if_pos c]
      rcases hl.mp c with z | z
      · rw [if_neg (fun y => absurd z (gez y))]
      · rw [if_pos z]
        split <;> rfl
    · rw [if_neg c, if_pos (le_nlt (fun z => c (hl.mpr (Or.inl z)))), if_neg (fun z => c (hl.mpr (Or.inr z)))]
theorem c2_2 {u : St} (hI : Inv u) : ∀ q, q ≤ 8 → c2F u 2 (q * 16) = lallF u q := by
  intro q
  induction q with
  | zero => intro _; exact c1_keep (by decide) (by decide) 16
  | succ q ih =>
    intro hq
    rw [show (q + 1) * 16 = q * 16 + 16 by omega]
    exact c2_2r hI (by omega) (ih (by omega)) 16 (Nat.le_refl 16)
theorem splits_eq {w v : St} : ∀ n, (∀ t, t < n → treeR w v t) → sumF (fun t => cntF (fun k => isSpF (w.1 (63 + t) k)) 7) n = eqcF (v.1 81) 2 (n * 7) := by
  intro n
  induction n with
  | zero => intro _; rfl
  | succ n ih =>
    intro h
    show sumF (fun t => cntF (fun k => isSpF (w.1 (63 + t) k)) 7) n + cntF (fun k => isSpF (w.1 (63 + n) k)) 7 = _
    rw [ih (fun t ht => h t (by omega)), show (n + 1) * 7 = n * 7 + 7 by omega, eqc_add]
    congr 1
    refine cnt_c 7 (fun j hj => ?_)
    unfold isSpF
    rcases (h n (by omega)).1 j hj with z | z | ⟨f, hf, z1, z2, -⟩
    · rw [z.1, z.2]; decide
    · rw [z.1, z.2.2.1]; decide
    · rw [z1, z2, if_neg (gez (nI_ge0 (by omega))), if_pos rfl]
/-- behind the class's count nothing has changed -/
theorem cntX_2 {u : St} {x : Int32} {n : Nat} : (cntX u x n).2 = u := by
  unfold cntX
  repeat' split
  all_goals rfl
theorem ans_count0 {u : St} (h : Jnv u) (x : Int32) (hx : ¬ x < 0 ∨ x < -8) : (cntX u x (nX u)).1 = (cntM (cntX u x (nX u)).2 x (nM (cntX u x (nX u)).2)).1 := by
  rw [cntX_2, ← h.2.2.1]
  have hT := h.2.2.2
  have h2 := h.x.s2
  have e11 : u.2.2.1 11 = nI (nX u) := by rw [h.2.2.1]; exact h.m.s11
  generalize nX u = n at hT h2 e11 ⊢
  unfold cntX cntM cntT
  rcases hx with c | c
  · rw [if_neg c, if_neg (fun z : x < 0 ∧ ¬ x < -8 => c z.1), if_neg c]
    by_cases x0 : x = 0
    · subst x0
      rw [if_pos rfl, if_pos (by decide)]
      show cntF (u.1 9) 16 = c2F u 0 128
      rw [c2_keep (by decide) (by decide) (by decide) 128, c1_0 h.t 16 (Nat.le_refl 16)]
    · by_cases x1 : x = 1
      · subst x1
        rw [if_neg x0, if_pos rfl, if_pos (by decide)]
        show u.2.2.1 1 = c2F u 1 128
        rw [c2_1 h.t 128, h.t.num, pos_gc]
      · by_cases x2 : x = 2
        · subst x2
          rw [if_neg x0, if_neg x1, if_pos rfl, if_pos (by decide)]
          show lallF u 8 = c2F u 2 128
          exact (c2_2 h.1 8 (Nat.le_refl 8)).symm
        · have x3 : ¬ x < 3 := fun z => by
            obtain ⟨j, hj, e⟩ := nI_of c
            rw [e] at z x0 x1 x2
            have := (nI_ltI (a := j) (b := 3) hj (by omega)).mp z
            rcases (show j = 0 ∨ j = 1 ∨ j = 2 by omega) with rfl | rfl | rfl
            · exact x0 rfl
            · exact x1 rfl
            · exact x2 rfl
          rw [if_neg x0, if_neg x1, if_neg x2, if_neg x3]
          by_cases y3 : x = 3
          · subst y3
            rw [if_pos rfl, if_neg (by decide), if_neg (by decide), if_pos rfl]
            exact e11.symm
          · rw [if_neg y3]
            by_cases y4 : x = 4
            · subst y4
              rw [if_pos rfl, if_neg (by decide), if_neg (by decide), if_neg (by decide), if_pos rfl]
              exact h.t.dep
            · rw [if_neg y4]
              by_cases y5 : x = 5
              · subst y5
                rw [if_pos rfl, if_neg (by decide), if_neg (by decide), if_neg (by decide), if_neg (by decide), if_pos rfl]
                exact splits_eq n hT
              · rw [if_neg y5]
                by_cases z1 : x = 1000
                · subst z1
                  rw [if_pos rfl, if_pos rfl]
                  show sizesF u 16 = c2F u 1000 128
                  rw [c2_keep (by decide) (by decide) (by decide) 128, c1_1000 h.t 16 (Nat.le_refl 16)]
                · rw [if_neg z1, if_neg z1]
                  by_cases z2 : x = 10000
                  · subst z2
                    rw [if_pos rfl, if_pos rfl]
                    exact (c2_10000 h.t 128 (Nat.le_refl 128)).symm
                  · rw [if_neg z2, if_neg z2, if_neg y3, if_neg y4, if_neg y5]
  · have c0 : x < 0 := by
      rw [Int32.lt_iff_toInt_lt] at c ⊢
      rw [show (-8 : Int32).toInt = -8 from rfl] at c
      rw [show (0 : Int32).toInt = 0 from rfl]
      omega
    have ne : ∀ z : Int32, ¬ z < 0 → ¬ x = z := fun z hz e => hz (e ▸ c0)
    rw [if_pos c0, if_neg (fun z : x < 0 ∧ ¬ x < -8 => z.2 c), if_pos c0, if_neg (ne 1000 (by decide)), if_neg (ne 10000 (by decide)), if_neg (ne 3 (by decide)), if_neg (ne 4 (by decide)), if_neg (ne 5 (by decide))]
    have hw : withinF (-1 - x) 7 = 0 := by
      have hb : ¬ inF (-1 - x) 8 = 0 → False := fun q => by
        obtain ⟨j, hj, e⟩ := in_ixN 8 q
        have a1 := Int32.lt_iff_toInt_lt.mp c
        have a3 := Int32.le_toInt x
        have a2 := congrArg Int32.toInt e
        rw [show (-8 : Int32).toInt = -8 from rfl] at a1
        rw [Int32.toInt_sub, nI_toInt (by omega), show (-1 : Int32).toInt = -1 from rfl, Int.bmod_eq_of_le (by omega) (by omega)] at a2
        omega
      rw [wi7]
      by_cases q : inF (-1 - x) 8 = 0
      · exact q
      · exact (hb q).elim
    rw [if_pos hw]
