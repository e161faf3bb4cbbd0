/-! a tree grows alike on both sides -/
def nodeR (w v : St) (t j : Nat) : Prop := (w.1 (63 + t) j = -2 ∧ v.1 81 (t * 7 + j) = 0) ∨ (w.1 (63 + t) j = -1 ∧ w.1 (67 + t) j = -1 ∧ v.1 81 (t * 7 + j) = 1 ∧ w.2.1 (71 + t) j = v.2.1 84 (t * 7 + j)) ∨ (∃ f : Nat, f < 5 ∧ w.1 (63 + t) j = nI f ∧ v.1 81 (t * 7 + j) = 2 ∧ v.1 82 (t * 7 + j) = nI f ∧ w.1 (67 + t) j = v.1 83 (t * 7 + j))
def smR (w v : St) (k : Nat) : Prop := (∀ f, f < 5 → ∀ i, i < k → w.1 (38 + i) f = v.1 85 (i * 5 + f)) ∧ (∀ i, i < k → w.2.1 15 i = v.2.1 87 i) ∧ w.2.2.1 3 = nI k ∧ v.2.2.1 12 = nI k ∧ (∀ f, f < 5 → ordOK w f k) ∧ (∀ f, f < 5 → ∀ i, i < k → ∃ z : Nat, z < 200 ∧ w.1 (38 + i) f = nI z)
/-- the parent of node j is a split that has been grown -/
def parS (v : St) (t n j : Nat) : Prop := j = 0 ∨ (v.1 81 (t * 7 + (j - 1) / 2) = 2 ∧ (j - 1) / 2 < n)
def wkX (w : St) (t i : Nat) : Nat := walkN (w.1 (63 + t)) (w.1 (67 + t)) (w.1 (38 + i)) 2 0
def grR (w v : St) (t k n : Nat) : Prop := smR w v k ∧ (∀ i, i < k → w.1 17 i = v.1 86 i) ∧ (∀ j, j < n → nodeR w v t j) ∧ (∀ j, n ≤ j → j < 7 → w.1 (63 + t) j = -2) ∧ (∀ i, i < k → ∃ j : Nat, j < 7 ∧ w.1 17 i = nI j ∧ wkX w t i = j) ∧
  (∀ i, i < k → ∀ j, n ≤ j → j < 7 → w.1 17 i = nI j → parS v t n j) ∧ (∀ j, n ≤ j → j < 7 → parS v t n j → ∃ i, i < k ∧ w.1 17 i = nI j) ∧ (∀ i, i < k → ∀ j, j < n → w.1 17 i = nI j → w.1 (63 + t) j = -1) ∧ (∀ j, j < n → parS v t n j → ¬ v.1 81 (t * 7 + j) = 0)
theorem nI_inj {a b : Nat} (ha : a < 2 ^ 31) (hb : b < 2 ^ 31) (h : nI a = nI b) : a = b := (nI_eq ha hb).mp h
theorem walk_c {ft ft2 th th2 x : Nat → Int32} (h1 : ∀ n, n < 3 → (ft n < 0 ↔ ft2 n < 0)) (h2 : ∀ n, n < 3 → ¬ ft n < 0 → ft2 n = ft n ∧ th2 n = th n) : walkN ft2 th2 x 2 0 = walkN ft th x 2 0 := by
  have st : ∀ n, n < 3 → ¬ ft n < 0 → stepN th2 x n (ft2 n).toNatClampNeg = stepN th x n (ft n).toNatClampNeg := fun n hn q => by
    unfold stepN
    rw [(h2 n hn q).1, (h2 n hn q).2]
  simp only [walkN]
  by_cases a : ft 0 < 0
  · rw [if_pos a, if_pos ((h1 0 (by omega)).mp a)]
  · rw [if_neg a, if_neg (fun q => a ((h1 0 (by omega)).mpr q)), st 0 (by omega) a]
    have hb : stepN th x 0 (ft 0).toNatClampNeg < 3 := by unfold stepN; split <;> omega
    generalize stepN th x 0 (ft 0).toNatClampNeg = m9 at hb ⊢
    by_cases b : ft m9 < 0
    · rw [if_pos b, if_pos ((h1 m9 hb).mp b)]
    · rw [if_neg b, if_neg (fun q => b ((h1 m9 hb).mpr q)), st m9 hb b]
theorem walk_2 {ft th x : Nat → Int32} : walkN ft th x 2 0 = (if ft 0 < 0 then 0 else if ft (stepN th x 0 (ft 0).toNatClampNeg) < 0 then stepN th x 0 (ft 0).toNatClampNeg else stepN th x (stepN th x 0 (ft 0).toNatClampNeg) (ft (stepN th x 0 (ft 0).toNatClampNeg)).toNatClampNeg) := rfl
theorem walk_split {ft th x : Nat → Int32} {n f j : Nat} {r : Int32} (hf : f < 5) (hn : n < 3) (h0 : ft n < 0) (h1 : n = 0 → ft 1 < 0 ∧ ft 2 < 0) (hj : walkN ft th x 2 0 = j) : walkN (upd ft n (nI f)) (upd th n r) x 2 0 = (if j = n then stepN (upd th n r) x n f else j) := by
  have nf : ¬ nI f < 0 := gez (nI_ge0 (by omega))
  have cl : (nI f).toNatClampNeg = f := nI_clamp (by omega)
  have s0 : ∀ (a : Nat → Int32) z, stepN a x 0 z = 1 ∨ stepN a x 0 z = 2 := fun a z => by unfold stepN; split <;> omega
  rw [walk_2] at hj ⊢
  rcases (show n = 0 ∨ n = 1 ∨ n = 2 by omega) with rfl | rfl | rfl
  · obtain ⟨a1, a2⟩ := h1 rfl
    rw [if_pos h0] at hj
    rw [upd_at, if_neg nf, cl, if_pos hj.symm]
    rcases s0 (upd th 0 r) f with e | e
    · rw [e, upd_ne (by decide), if_pos a1]
    · rw [e, upd_ne (by decide), if_pos a2]
  · rw [upd_ne (show (0 : Nat) ≠ 1 by decide)]
    by_cases b : ft 0 < 0
    · rw [if_pos b] at hj ⊢
      rw [if_neg (by omega), hj]
    · rw [if_neg b] at hj ⊢
      have e0 : stepN (upd th 1 r) x 0 (ft 0).toNatClampNeg = stepN th x 0 (ft 0).toNatClampNeg := by unfold stepN; rw [upd_ne (by decide)]
      rw [e0]
      rcases s0 th (ft 0).toNatClampNeg with e | e
      · rw [e, if_pos h0] at hj
        rw [e, upd_at, if_neg nf, if_pos hj.symm, cl]
      · rw [e] at hj ⊢
        rw [upd_ne (show (2 : Nat) ≠ 1 by decide)]
        have e1 : stepN (upd th 1 r) x 2 (ft 2).toNatClampNeg = stepN th x 2 (ft 2).toNatClampNeg := by unfold stepN; rw [upd_ne (by decide)]
        rw [e1, hj]
        have : ¬ j = 1 := by
          rw [← hj]
          split
          · decide
          · unfold stepN; split <;> decide
        rw [if_neg this]
  · rw [upd_ne (show (0 : Nat) ≠ 2 by decide)]
    by_cases b : ft 0 < 0
    · rw [if_pos b] at hj ⊢
      rw [if_neg (by omega), hj]
    · rw [if_neg b] at hj ⊢
      have e0 : stepN (upd th 2 r) x 0 (ft 0).toNatClampNeg = stepN th x 0 (ft 0).toNatClampNeg := by unfold stepN; rw [upd_ne (by decide)]
      rw [e0]
      rcases s0 th (ft 0).toNatClampNeg with e | e
      · rw [e] at hj ⊢
        rw [upd_ne (show (1 : Nat) ≠ 2 by decide)]
        have e1 : stepN (upd th 2 r) x 1 (ft 1).toNatClampNeg = stepN th x 1 (ft 1).toNatClampNeg := by unfold stepN; rw [upd_ne (by decide)]
        rw [e1, hj]
        have : ¬ j = 2 := by
          rw [← hj]
          split
          · decide
          · unfold stepN; split <;> decide
        rw [if_neg this]
      · rw [e, if_pos h0] at hj
        rw [e, upd_at, if_neg nf, if_pos hj.symm, cl]
theorem sendF_17 {u : St} {t n fe : Nat} : ∀ i j, (sendF u t n fe i).1 17 j = (if j < i ∧ u.1 17 j = nI n then nI (stepN (u.1 (67 + t)) (u.1 (38 + j)) n fe) else u.1 17 j) := by
  intro i
  induction i with
  | zero => intro j; rw [if_neg (show ¬ (j < 0 ∧ u.1 17 j = nI n) from fun q => absurd q.1 (by omega))]; rfl
  | succ i ih =>
    intro j
    simp only [sendF]
    by_cases c : u.1 17 i = nI n
    · rw [if_pos c, sI_eq]
      show (if j = i then _ else _) = _
      by_cases hj : j = i
      · subst hj
        have h3 : j < j + 1 ∧ u.1 17 j = nI n := ⟨by omega, c⟩
        rw [if_pos rfl, if_pos h3]
      · rw [if_neg hj, ih j]
        by_cases h2 : j < i ∧ u.1 17 j = nI n
        · have h3 : j < i + 1 ∧ u.1 17 j = nI n := ⟨by omega, h2.2⟩
          rw [if_pos h2, if_pos h3]
        · have h3 : ¬ (j < i + 1 ∧ u.1 17 j = nI n) := fun q => h2 ⟨by omega, q.2⟩
          rw [if_neg h2, if_neg h3]
    · rw [if_neg c, ih j]
      by_cases h2 : j < i ∧ u.1 17 j = nI n
      · have h3 : j < i + 1 ∧ u.1 17 j = nI n := ⟨by omega, h2.2⟩
        rw [if_pos h2, if_pos h3]
      · have h3 : ¬ (j < i + 1 ∧ u.1 17 j = nI n) := fun q => by
          rcases Nat.lt_or_ge j i with z | z
          · exact h2 ⟨z, q.2⟩
          · exact c ((show j = i by omega) ▸ q.2)
        rw [if_neg h2, if_neg h3]
theorem smR.mv {w v w2 v2 : St} {k : Nat} (h : smR w v k) (hw : ∀ j, 38 ≤ j → j < 59 → w2.1 j = w.1 j) (hv : v2.1 85 = v.1 85) (hr : w2.2.1 15 = w.2.1 15) (hl : v2.2.1 87 = v.2.1 87) (h3 : w2.2.2.1 3 = w.2.2.1 3) (h12 : v2.2.2.1 12 = v.2.2.1 12) (hk : k ≤ 16) : smR w2 v2 k := by
  obtain ⟨a1, a2, a3, a4, a5, a6⟩ := h
  exact ⟨fun f hf i hi => by rw [hw _ (by omega) (by omega), hv]; exact a1 f hf i hi, fun i hi => by rw [hr, hl]; exact a2 i hi, by rw [h3]; exact a3, by rw [h12]; exact a4, fun f hf => (a5 f hf).mv (fun i _ => by rw [hw _ (by omega) (by omega)]) (fun i hi => by rw [hw _ (by omega) (by omega)]), fun f hf i hi => by rw [hw _ (by omega) (by omega)]; exact a6 f hf i hi⟩
theorem nodeR.mv {w v w2 v2 : St} {t j : Nat} (h : nodeR w v t j) (e1 : w2.1 (63 + t) j = w.1 (63 + t) j) (e2 : w2.1 (67 + t) j = w.1 (67 + t) j) (e3 : w2.2.1 (71 + t) j = w.2.1 (71 + t) j) (e4 : v2.1 81 (t * 7 + j) = v.1 81 (t * 7 + j)) (e5 : v2.1 82 (t * 7 + j) = v.1 82 (t * 7 + j)) (e6 : v2.1 83 (t * 7 + j) = v.1 83 (t * 7 + j)) (e7 : v2.2.1 84 (t * 7 + j) = v.2.1 84 (t * 7 + j)) : nodeR w2 v2 t j := by
  unfold nodeR at h ⊢
  rw [e1, e2, e3, e4, e5, e6, e7]
  exact h
/-- node n becomes nothing or a leaf: nobody moves -/
theorem gr_still {w v w2 v2 : St} {t k n : Nat} {x9 : Int32} (hk : k ≤ 16) (hn : n < 7) (ht : t < 4) (h : grR w v t k n) (hx : x9 < 0)
    (ew : ∀ j, j ≠ 63 + t → j ≠ 67 + t → w2.1 j = w.1 j) (e63 : w2.1 (63 + t) = upd (w.1 (63 + t)) n x9) (e67 : ∀ j, j ≠ n → w2.1 (67 + t) j = w.1 (67 + t) j) (e71 : ∀ j, j ≠ n → w2.2.1 (71 + t) j = w.2.1 (71 + t) j) (e15 : w2.2.1 15 = w.2.1 15) (e3 : w2.2.2.1 3 = w.2.2.1 3)
    (ev : ∀ j, j ≠ 81 → v2.1 j = v.1 j) (e81 : ∀ j, j ≠ t * 7 + n → v2.1 81 j = v.1 81 j) (e84 : ∀ j, j ≠ t * 7 + n → v2.2.1 84 j = v.2.1 84 j) (e87 : v2.2.1 87 = v.2.1 87) (e12 : v2.2.2.1 12 = v.2.2.1 12)
    (hR : nodeR w2 v2 t n) (h2 : ¬ v2.1 81 (t * 7 + n) = 2) (hno : x9 = -1 ∨ ∀ i, i < k → ¬ w.1 17 i = nI n) (hpr : parS v t n n → ¬ v2.1 81 (t * 7 + n) = 0) : grR w2 v2 t k (n + 1) := by
  obtain ⟨A, B, C, Dd, E, P1, P2, P4, P5⟩ := h
  have e17 : w2.1 17 = w.1 17 := ew 17 (by omega) (by omega)
  have par : ∀ j, parS v2 t (n + 1) j → j ≠ 0 → (j - 1) / 2 ≠ n := fun j hp hj e => by
    rcases hp with z | z
    · exact hj z
    · rw [e] at z; exact h2 z.1
  have par2 : ∀ j, parS v2 t (n + 1) j → parS v t n j := fun j hp => by
    by_cases e0 : j = 0
    · exact Or.inl e0
    · have := par j hp e0
      rcases hp with z | z
      · exact Or.inl z
      · exact Or.inr ⟨by rw [← e81 _ (by omega)]; exact z.1, by omega⟩
  have par3 : ∀ j, parS v t n j → parS v2 t (n + 1) j := fun j hp => by
    rcases hp with z | z
    · exact Or.inl z
    · exact Or.inr ⟨by rw [e81 _ (by omega)]; exact z.1, by omega⟩
  refine ⟨A.mv (fun j h1 h3 => ew j (by omega) (by omega)) (ev 85 (by decide)) e15 e87 e3 e12 hk, fun i hi => by rw [e17, ev 86 (by decide)]; exact B i hi, fun j hj => ?_, fun j h1 h3 => ?_, fun i hi => ?_, fun i hi j h1 h3 h4 => ?_, fun j h1 h3 h4 => ?_, fun i hi j hj hij => ?_, fun j hj hp => ?_⟩
  · by_cases e : j = n
    · rw [e]; exact hR
    · exact (C j (by omega)).mv (by rw [e63, upd_ne e]) (e67 j e) (e71 j e) (e81 _ (by omega)) (by rw [ev 82 (by decide)]) (by rw [ev 83 (by decide)]) (e84 _ (by omega))
  · rw [e63, upd_ne (by omega)]; exact Dd j (by omega) h3
  · obtain ⟨j, hj, h5, h6⟩ := E i hi
    refine ⟨j, hj, by rw [e17]; exact h5, ?_⟩
    rw [← h6]
    unfold wkX
    have e38 : w2.1 (38 + i) = w.1 (38 + i) := ew _ (by omega) (by omega)
    rw [e38]
    have hD := Dd n (Nat.le_refl n) hn
    refine walk_c (fun m9 _ => ?_) (fun m9 _ hq => ?_)
    · rw [e63]
      by_cases e : m9 = n
      · rw [e, upd_at, hD]; exact ⟨fun _ => hx, fun _ => by decide⟩
      · rw [upd_ne e]
    · have e : m9 ≠ n := fun q => hq (by rw [q, hD]; decide)
      exact ⟨by rw [e63, upd_ne e], e67 m9 e⟩
  · rw [e17] at h4
    exact par3 j (P1 i hi j (by omega) h3 h4)
  · rw [e17]
    exact P2 j (by omega) h3 (par2 j h4)
  · rw [e17] at hij
    rw [e63]
    by_cases e : j = n
    · rw [e, upd_at]
      rcases hno with z | z
      · exact z
      · exact absurd (e ▸ hij) (z i hi)
    · rw [upd_ne e]; exact P4 i hi j (by omega) hij
  · by_cases e : j = n
    · subst e
      exact hpr (par2 j hp)
    · rw [e81 _ (by omega)]; exact P5 j (by omega) (par2 j hp)
/-- node n becomes a split: its samples go on -/
theorem gr_split {w v w2 v2 : St} {t k n fe : Nat} {r : Int32} (hk : k ≤ 16) (hn : n < 3) (ht : t < 4) (hfe : fe < 5) (h : grR w v t k n)
    (ew : ∀ j, j ≠ 63 + t → j ≠ 67 + t → j ≠ 17 → w2.1 j = w.1 j) (e63 : w2.1 (63 + t) = upd (w.1 (63 + t)) n (nI fe)) (e67 : w2.1 (67 + t) = upd (w.1 (67 + t)) n r) (e17 : ∀ i, i < k → w2.1 17 i = (if w.1 17 i = nI n then nI (stepN (w2.1 (67 + t)) (w.1 (38 + i)) n fe) else w.1 17 i)) (e71 : ∀ j, j ≠ n → w2.2.1 (71 + t) j = w.2.1 (71 + t) j) (e15 : w2.2.1 15 = w.2.1 15) (e3 : w2.2.2.1 3 = w.2.2.1 3)
    (ev : v2.1 85 = v.1 85) (e86 : ∀ i, i < k → v2.1 86 i = (if v.1 86 i = nI n then (if v.1 85 (i * 5 + fe) ≤ r then nI (2 * n + 1) else nI (2 * n + 2)) else v.1 86 i)) (e81 : v2.1 81 = upd (v.1 81) (t * 7 + n) 2) (e82 : v2.1 82 = upd (v.1 82) (t * 7 + n) (nI fe)) (e83 : v2.1 83 = upd (v.1 83) (t * 7 + n) r) (e84 : v2.2.1 84 = v.2.1 84) (e87 : v2.2.1 87 = v.2.1 87) (e12 : v2.2.2.1 12 = v.2.2.1 12)
    (hlow : ∃ i, i < k ∧ w.1 17 i = nI n ∧ w.1 (38 + i) fe ≤ r) (hhigh : ∃ i, i < k ∧ w.1 17 i = nI n ∧ ¬ w.1 (38 + i) fe ≤ r) : grR w2 v2 t k (n + 1) := by
  obtain ⟨A, B, C, Dd, E, P1, P2, P4, P5⟩ := h
  have hD := Dd n (Nat.le_refl n) (by omega)
  have stp : ∀ i, stepN (w2.1 (67 + t)) (w.1 (38 + i)) n fe = (if w.1 (38 + i) fe ≤ r then 2 * n + 1 else 2 * n + 2) := fun i => by
    unfold stepN
    rw [e67, upd_at]
    by_cases a : w.1 (38 + i) fe ≤ r
    · rw [if_pos a, if_neg (fun q => by rw [Int32.lt_iff_toInt_lt] at q; rw [Int32.le_iff_toInt_le] at a; omega)]
    · rw [if_neg a, if_pos (by rw [Int32.lt_iff_toInt_lt]; rw [Int32.le_iff_toInt_le] at a; omega)]
  have k81 : ∀ j, j ≠ n → v2.1 81 (t * 7 + j) = v.1 81 (t * 7 + j) := fun j hj => by rw [e81, upd_ne (by omega)]
  have kn : v2.1 81 (t * 7 + n) = 2 := by rw [e81, upd_at]
  -- where a sample is now
  have now : ∀ i, i < k → ∀ j, j < 7 → w2.1 17 i = nI j → (w.1 17 i = nI n ∧ (j = 2 * n + 1 ∨ j = 2 * n + 2)) ∨ (w.1 17 i = nI j ∧ j ≠ n) := fun i hi j hj q => by
    rw [e17 i hi] at q
    by_cases a : w.1 17 i = nI n
    · rw [if_pos a, stp i] at q
      refine Or.inl ⟨a, ?_⟩
      split at q
      · exact Or.inl (nI_inj (by omega) (by omega) q).symm
      · exact Or.inr (nI_inj (by omega) (by omega) q).symm
    · rw [if_neg a] at q
      exact Or.inr ⟨q, fun e => a (e ▸ q)⟩
  have chd : ∀ j, (j = 2 * n + 1 ∨ j = 2 * n + 2) → parS v2 t (n + 1) j := fun j hj => Or.inr ⟨by rw [show (j - 1) / 2 = n by omega]; exact kn, by omega⟩
  have par3 : ∀ j, parS v t n j → parS v2 t (n + 1) j := fun j hp => by
    rcases hp with z | z
    · exact Or.inl z
    · exact Or.inr ⟨by rw [k81 _ (by omega)]; exact z.1, by omega⟩
  have par2 : ∀ j, parS v2 t (n + 1) j → parS v t n j ∨ (j = 2 * n + 1 ∨ j = 2 * n + 2) := fun j hp => by
    by_cases e0 : j = 0
    · exact Or.inl (Or.inl e0)
    · by_cases e : (j - 1) / 2 = n
      · exact Or.inr (by omega)
      · rcases hp with z | z
        · exact absurd z e0
        · exact Or.inl (Or.inr ⟨by rw [← k81 _ e]; exact z.1, by omega⟩)
  refine ⟨A.mv (fun j h1 h3 => ew j (by omega) (by omega) (by omega)) ev e15 e87 e3 e12 hk, fun i hi => ?_, fun j hj => ?_, fun j h1 h3 => by rw [e63, upd_ne (by omega)]; exact Dd j (by omega) h3, fun i hi => ?_, fun i hi j h1 h3 h4 => ?_, fun j h1 h3 h4 => ?_, fun i hi j hj hij => ?_, fun j hj hp => ?_⟩
  · rw [e17 i hi, e86 i hi, stp i, ← B i hi, ← A.1 fe hfe i hi]
    by_cases a : w.1 17 i = nI n
    · rw [if_pos a, if_pos a]
      split <;> rfl
    · rw [if_neg a, if_neg a]
  · by_cases e : j = n
    · subst e
      exact Or.inr (Or.inr ⟨fe, hfe, by rw [e63, upd_at], kn, by rw [e82, upd_at], by rw [e67, upd_at, e83, upd_at]⟩)
    · exact (C j (by omega)).mv (by rw [e63, upd_ne e]) (by rw [e67, upd_ne e]) (e71 j e) (k81 j e) (by rw [e82, upd_ne (by omega)]) (by rw [e83, upd_ne (by omega)]) (by rw [e84])
  · obtain ⟨j, hj, h5, h6⟩ := E i hi
    have hws := walk_split (ft := w.1 (63 + t)) (th := w.1 (67 + t)) (x := w.1 (38 + i)) (n := n) (f := fe) (r := r) hfe hn (by rw [hD]; decide) (fun e => ⟨by rw [Dd 1 (by omega) (by omega)]; decide, by rw [Dd 2 (by omega) (by omega)]; decide⟩) h6
    have e38 : w2.1 (38 + i) = w.1 (38 + i) := ew _ (by omega) (by omega) (by omega)
    have hwk : wkX w2 t i = (if j = n then stepN (w2.1 (67 + t)) (w.1 (38 + i)) n fe else j) := by
      unfold wkX
      rw [e38, e63, e67]
      exact hws
    by_cases a : j = n
    · rw [if_pos a] at hwk
      refine ⟨stepN (w2.1 (67 + t)) (w.1 (38 + i)) n fe, ?_, ?_, hwk⟩
      · rw [stp i]; split <;> omega
      · rw [e17 i hi, if_pos (by rw [h5, a])]
    · rw [if_neg a] at hwk
      refine ⟨j, hj, ?_, hwk⟩
      rw [e17 i hi, if_neg (fun q => a (nI_inj (by omega) (by omega) (h5.symm.trans q)))]
      exact h5
  · rcases now i hi j h3 h4 with z | z
    · exact chd j z.2
    · exact par3 j (P1 i hi j (by omega) h3 z.1)
  · rcases par2 j h4 with z | z
    · obtain ⟨i, hi, hij⟩ := P2 j (by omega) h3 z
      exact ⟨i, hi, by rw [e17 i hi, if_neg (fun q => absurd (nI_inj (by omega) (by omega) (hij.symm.trans q)) (by omega))]; exact hij⟩
    · rcases z with z | z
      · obtain ⟨i, hi, a1, a2⟩ := hlow
        exact ⟨i, hi, by rw [e17 i hi, if_pos a1, stp i, if_pos a2, z]⟩
      · obtain ⟨i, hi, a1, a2⟩ := hhigh
        exact ⟨i, hi, by rw [e17 i hi, if_pos a1, stp i, if_neg a2, z]⟩
  · rcases now i hi j (by omega) hij with z | z
    · omega
    · rw [e63, upd_ne z.2]; exact P4 i hi j (by omega) z.1
  · by_cases e : j = n
    · subst e
      rw [kn]; decide
    · rw [k81 j e]
      rcases par2 j hp with z | z
      · exact P5 j (by omega) z
      · omega
