/-! the invariant is kept: train -/
theorem sG_ne {u : St} {k j : Nat} {x : Int64} (h : j ≠ k) : (sG u k x).2.2.2 j = u.2.2.2 j := if_neg h
theorem wsF_G {u : St} {f x : Int32} {y : Int64} {a : Int32} {j : Nat} (h : j ≠ 1) : (wsF u f x y a).2.2.2 j = u.2.2.2 j := by
  unfold wsF
  repeat' split
  all_goals first | rfl | exact sG_ne h
theorem wtF_G {u : St} {x : Int32} {f j : Nat} (h : j ≠ 1) : ∀ t, (wtF u x f t).2.2.2.2.2.2 j = u.2.2.2 j := by
  intro t
  induction t with
  | zero => rfl
  | succ t ih =>
    simp only [wtF]
    split
    · split
      · exact ih
      · rw [wsF_G h]; exact ih
    · exact ih
theorem fsF_G {u : St} {x : Int32} {k j : Nat} (h : j ≠ 1) : ∀ {f : Nat}, (fsF u x k f).2.2.2 j = u.2.2.2 j := by
  intro f
  induction f with
  | zero => exact sG_ne h
  | succ f ih => simp only [fsF]; rw [wtF_G h]; exact ih
theorem gxS_L {w : St} {t a n k j : Nat} (h : j ≠ 71 + t) : (gxS w t a n k).2.1 j = w.2.1 j := by
  unfold gxS
  split
  · rfl
  · split
    · show (sL _ _ _ _).2.1 j = _; rw [sL_ne h]; rfl
    · split
      · show (sL _ _ _ _).2.1 j = _; rw [sL_ne h]; show (fsF _ _ _ _).2.1 j = _; rw [fsF_21]; rfl
      · unfold spX
        rw [sendF_2]
        show (sL _ _ _ _).2.1 j = _
        rw [sL_ne h]
        show (fsF _ _ _ _).2.1 j = _
        rw [fsF_21]; rfl
theorem gxS_G {w : St} {t a n k j : Nat} (h0 : j ≠ 0) (h1 : j ≠ 1) : (gxS w t a n k).2.2.2 j = w.2.2.2 j := by
  have es : (suF w n k).2.2.2 j = w.2.2.2 j := sG_ne h0
  unfold gxS
  split
  · exact es
  · split
    · exact es
    · split
      · show (fsF _ _ _ _).2.2.2 j = _; rw [fsF_G h1]; exact es
      · unfold spX
        rw [sendF_2]
        show (fsF _ _ _ _).2.2.2 j = _
        rw [fsF_G h1]; exact es
theorem gxF_L {u : St} {t a k j : Nat} {y : Int32} (h : j ≠ 71 + t) : ∀ n, (gxF u t a y k n).2.1 j = u.2.1 j := by
  intro n
  induction n with
  | zero => rfl
  | succ n ih => simp only [gxF]; rw [gxS_L h]; exact ih
theorem gxF_G {u : St} {t a k j : Nat} {y : Int32} (h0 : j ≠ 0) (h1 : j ≠ 1) : ∀ n, (gxF u t a y k n).2.2.2 j = u.2.2.2 j := by
  intro n
  induction n with
  | zero => rfl
  | succ n ih => simp only [gxF]; rw [gxS_G h0 h1]; exact ih
theorem gxF_T {u : St} {t a k : Nat} {y : Int32} (ht4 : t < 4) (h : ∀ j, j < 7 → u.1 (63 + t) j < 5) : ∀ n, ∀ j, j < 7 → (gxF u t a y k n).1 (63 + t) j < 5 := by
  intro n
  induction n with
  | zero => intro j hj; show (fillF (sF u 4 y) 17 0 16).1 (63 + t) j < 5; rw [fill_ne (by omega)]; exact h j hj
  | succ n ih => simp only [gxF]; exact gxS_T ht4 ih
theorem rsX_L {w : St} {t j : Nat} (h : j ≠ 15) : ∀ i, (rsX w t i).2.1 j = w.2.1 j := by
  intro i
  induction i with
  | zero => rfl
  | succ i ih => simp only [rsX]; rw [sL_ne h]; exact ih
theorem growX_same {u : St} {t a k : Nat} {y : Int32} (ht4 : t < 4) : Same (fun j => j ≠ 17 ∧ j ≠ 63 + t ∧ j ≠ 67 + t) (fun j => j ≠ 15 ∧ j ≠ 71 + t) (fun j => j ≠ 4 ∧ j ≠ 5 ∧ j ≠ 6 ∧ j ≠ 7) (fun j => j ≠ 0 ∧ j ≠ 1) u (growX u t a y k) := by
  refine ⟨fun j hj => growX_ne hj.1 hj.2.1 hj.2.2, fun j hj => ?_, fun j hj => growX_F hj, fun j hj => ?_⟩
  · unfold growX
    rw [rsX_L hj.1, gxF_L hj.2]
  · unfold growX
    rw [(rsX_keep k).2, gxF_G hj.1 hj.2]
abbrev TX (u w : St) : Prop := Same (fun j => j ≠ 17 ∧ ¬ (63 ≤ j ∧ j < 71)) (fun j => j ≠ 15 ∧ ¬ (71 ≤ j ∧ j < 75)) (fun j => ¬ (2 ≤ j ∧ j < 8)) (fun j => j ≠ 0 ∧ j ≠ 1) u w
theorem gtX_ok {b : St} {i k : Nat} {y : Int32} : ∀ t, t ≤ 4 → TX b (gtX b i y k t) ∧ (gtX b i y k t).2.2.1 2 = (if t = 0 then b.2.2.1 2 else nI t) ∧ ∀ t2, t2 < t → ∀ j, j < 7 → (gtX b i y k t).1 (63 + t2) j < 5 := by
  intro t
  induction t with
  | zero => intro _; exact ⟨Same.rf, rfl, fun t2 h => absurd h (by omega)⟩
  | succ t ih =>
    intro ht
    obtain ⟨h1, -, h3⟩ := ih (by omega)
    simp only [gtX]
    generalize gtX b i y k t = w at h1 h3 ⊢
    have g1 := growX_same (u := fillF (sF w 2 (nI (t + 1))) (63 + t) (-2) 7) (t := t) (a := i) (k := k) (y := y) (by omega)
    have gT : ∀ j, j < 7 → (growX (fillF (sF w 2 (nI (t + 1))) (63 + t) (-2) 7) t i y k).1 (63 + t) j < 5 := by
      unfold growX
      rw [(rsX_keep k).1]
      exact gxF_T (by omega) (fun j hj => by rw [fill_in hj]; decide) 7
    generalize growX (fillF (sF w 2 (nI (t + 1))) (63 + t) (-2) 7) t i y k = x at g1 gT ⊢
    refine ⟨Same.tr h1 ⟨fun j hj => ?_, fun j hj => ?_, fun j hj => ?_, fun j hj => ?_⟩, ?_, fun t2 h2 j hj => ?_⟩
    · rw [g1.1 j ⟨hj.1, by omega, by omega⟩, fill_ne (by omega)]; rfl
    · rw [g1.2.1 j ⟨hj.1, by omega⟩]; rfl
    · rw [g1.2.2.1 j ⟨by omega, by omega, by omega, by omega⟩]; show (sF w 2 _).2.2.1 j = _; rw [sF_ne (by omega)]
    · rw [g1.2.2.2 j hj]; rfl
    · rw [if_neg (by omega), g1.2.2.1 2 (by decide)]; exact sF_eq
    · by_cases e : t2 = t
      · subst e; exact gT j hj
      · rw [g1.1 (63 + t2) ⟨by omega, by omega, by omega⟩, fill_ne (by omega)]
        exact h3 t2 (by omega) j hj
theorem tn_le (u : St) {a : Nat} (h : a ≤ 4) : tnN u a ≤ 4 := by
  unfold tnN
  split <;> omega
theorem tnS_ok {u : St} {a i : Nat} {y : Int32} (ha : a ≤ 4) : Same (fun j => j ≠ 8 ∧ j ≠ 17 ∧ (j < 38 ∨ 59 ≤ j) ∧ ¬ (63 ≤ j ∧ j < 71)) (fun j => j ≠ 15 ∧ ¬ (71 ≤ j ∧ j < 75)) (fun j => ¬ (2 ≤ j ∧ j < 8)) (fun j => j ≠ 0 ∧ j ≠ 1) u (tnS u a i y) ∧ (tnS u a i y).2.2.1 2 = nI (tnN u a) ∧ ∀ t2, t2 < tnN u a → ∀ j, j < 7 → (tnS u a i y).1 (63 + t2) j < 5 := by
  have hn := tn_le u ha
  obtain ⟨h0, h1, h2, h3, h4⟩ := gaA_ok (sF u 2 0) 8
  unfold tnS
  generalize tnN u a = n at hn ⊢
  generalize gaA (sF u 2 0) 8 = b at h1 h2 h3 h4 ⊢
  obtain ⟨g1, g2, g3⟩ := gtX_ok (b := b) (i := i) (k := (b.2.2.1 3).toNatClampNeg) (y := y) n hn
  generalize gtX b i y (b.2.2.1 3).toNatClampNeg n = w at g1 g2 g3 ⊢
  refine ⟨⟨fun j hj => ?_, fun j hj => ?_, fun j hj => ?_, fun j hj => ?_⟩, ?_, g3⟩
  · rw [g1.1 j ⟨hj.2.1, hj.2.2.2⟩, h1 j hj.1 hj.2.2.1]; rfl
  · rw [g1.2.1 j hj, h2 j hj.1]; rfl
  · rw [g1.2.2.1 j hj, h3 j (by omega), sF_ne (by omega)]
  · rw [g1.2.2.2 j hj, h4]; rfl
  · rw [g2]
    split
    · rename_i e
      rw [e, h3 2 (by decide), sF_eq]
      rfl
    · rfl
theorem trainX_ok {u : St} (h : Inv u) (x z y : Int32) : KM u (trainX u x z y).2 ∧ IX (trainX u x z y).2 ∧ Tie (trainX u x z y).2 := by
  unfold trainX
  split; exact ⟨Same.rf, h.x, h.t⟩; split; exact ⟨Same.rf, h.x, h.t⟩; split; exact ⟨Same.rf, h.x, h.t⟩; split; exact ⟨Same.rf, h.x, h.t⟩
  rename_i c1 c2 c3 c4
  have ha : x.toNatClampNeg ≤ 4 := by
    rw [wi4] at c1
    obtain ⟨j, hj, rfl⟩ := in_ixN 5 c1
    rw [nI_clamp (by omega)]; omega
  have hn := tn_le u ha
  obtain ⟨g1, g2, g3⟩ := tnS_ok (u := u) (a := x.toNatClampNeg) (i := z.toNatClampNeg) (y := y) ha
  dsimp only
  generalize tnN u x.toNatClampNeg = n at hn g2 g3
  generalize tnS u x.toNatClampNeg z.toNatClampNeg y = w at g1 g2 g3 ⊢
  have en : nX w = n := by unfold nX; rw [g2, nI_clamp (by omega)]
  refine ⟨Same.weak g1 (fun j hj => by omega) (fun j hj => by omega) (fun j hj => by omega) (fun j hj => by omega), ⟨fun d hd t ht => by rw [g1.1 _ (by omega)]; exact h.x.nn d hd t ht, by rw [en]; exact hn, by rw [g2, en], fun t ht j hj => g3 t (en ▸ ht) j hj, by rw [g1.2.2.1 0 (by decide)]; exact h.x.d0⟩, h.t.keep (fun j hj => g1.1 j (by unfold tie1 at hj; omega)) (g1.2.2.1 0 (by decide)) (g1.2.2.1 1 (by decide)) (g1.2.2.1 10 (by decide))⟩
/-! the reference's -/
theorem stM_G {b : St} {x y : Int32} {f k t j : Nat} (h : j ≠ 2) : (stM b x y f k t).2.2.2 j = b.2.2.2 j := by
  unfold stM
  repeat' split
  all_goals first | rfl | exact sG_ne h
theorem tMF_G {a : St} {x y : Int32} {f k j : Nat} (h : j ≠ 2) : ∀ t, (tMF a x y f k t).2.2.2 j = a.2.2.2 j := by
  intro t
  induction t with
  | zero => rfl
  | succ t ih => simp only [tMF]; rw [stM_G h, ih]
theorem fMF_G {u : St} {x y : Int32} {k j : Nat} (h : j ≠ 2) : ∀ {f : Nat}, (fMF u x y k f).2.2.2 j = u.2.2.2 j := by
  intro f
  induction f with
  | zero => exact sG_ne h
  | succ f ih => simp only [fMF]; rw [tMF_G h, ih]
theorem selS_G {u : St} {n k j : Nat} {x y : Int32} (h : j ≠ 2) : (selS u n x y k).2.2.2 j = u.2.2.2 j := by
  unfold selS
  split
  · rfl
  · rw [fMF_G h]; rfl
theorem gnF_ne {w : St} {t n k j : Nat} (h : j ≠ 81 ∧ j ≠ 82 ∧ j ≠ 83 ∧ j ≠ 86) : (gnF w t n k).1 j = w.1 j := by
  unfold gnF
  split
  · show (sI _ _ _ _).1 j = _; rw [sI_ne h.1]
  · rw [sendM_ne h.2.2.2, sI_ne h.2.2.1, sI_ne h.2.1, sI_ne h.1]
theorem gnF_L {w : St} {t n k j : Nat} (h : j ≠ 84) : (gnF w t n k).2.1 j = w.2.1 j := by
  unfold gnF
  split
  · show (sL _ _ _ _).2.1 j = _; rw [sL_ne h]; rfl
  · rw [sendM_2]; rfl
theorem gnF_81 {w : St} {t n k : Nat} {x y : Int32} (hx : x ≤ 2) (hn : n < 7) : ∀ i, (gnF (selS w n x y k) t n k).1 81 i = w.1 81 i ∨ (i = t * 7 + n ∧ ((gnF (selS w n x y k) t n k).1 81 i = 2 → n < 3)) := by
  intro i
  by_cases e : i = t * 7 + n
  · refine Or.inr ⟨e, ?_⟩
    intro q
    unfold gnF at q
    split at q
    · have e2 : (sL (sI (selS w n x y k) 81 (t * 7 + n) 1) 84 (t * 7 + n) (nsF ((selS w n x y k).2.1 87) ((selS w n x y k).1 86) (nI n) k / (nI (shareN (cnN ((selS w n x y k).1 86) (nI n) k))).toInt64)).1 81 i = 1 := by
        show (sI (selS w n x y k) 81 (t * 7 + n) 1).1 81 i = 1
        rw [sI_eq, e, upd_at]
      rw [e2] at q
      exact absurd q (by decide)
    · rename_i c
      have hl : ¬ x ≤ lvlF n := by
        intro q2
        refine c ?_
        unfold selS
        rw [if_pos q2]
        exact (by decide : ((-1 : Int32) < 0))
      exact lvl_small hx hn hl
  · refine Or.inl ?_
    unfold gnF
    split
    · show (sI (selS w n x y k) 81 (t * 7 + n) 1).1 81 i = _
      rw [sI_eq, upd_ne e, selS_1]
    · rw [sendM_ne (by decide), sI_ne (by decide), sI_ne (by decide), sI_eq, upd_ne e, selS_1]
theorem gwF_same {u : St} {t k : Nat} {x y : Int32} : ∀ n, Same (fun j => j ≠ 81 ∧ j ≠ 82 ∧ j ≠ 83 ∧ j ≠ 86) (fun j => j ≠ 84) (fun j => j ≠ 14 ∧ j ≠ 15) (fun j => j ≠ 2) u (gwF u t x y k n) := by
  intro n
  induction n with
  | zero => exact ⟨fun j hj => fill_ne hj.2.2.2, fun _ _ => rfl, fun _ _ => rfl, fun _ _ => rfl⟩
  | succ n ih =>
    refine Same.tr ih ?_
    simp only [gwF]
    generalize gwF u t x y k n = w
    split
    · refine ⟨fun j hj => ?_, fun j hj => ?_, fun j hj => ?_, fun j hj => ?_⟩
      · rw [gnF_ne hj, selS_1, sI_ne hj.1]
      · rw [gnF_L hj, selS_21]; rfl
      · rw [gnF_2, selS_F hj]; rfl
      · rw [gnF_2, selS_G hj]; rfl
    · exact ⟨fun j hj => sI_ne hj.1, fun _ _ => rfl, fun _ _ => rfl, fun _ _ => rfl⟩
/-- a split of tree t is one of the first three nodes -/
theorem gwF_81 {u : St} {t k : Nat} {x y : Int32} (hx : x ≤ 2) : ∀ n, n ≤ 7 → (∀ i, (∀ m9, m9 < 7 → i ≠ t * 7 + m9) → (gwF u t x y k n).1 81 i = u.1 81 i) ∧ (∀ m9, m9 < n → (gwF u t x y k n).1 81 (t * 7 + m9) = 2 → m9 < 3) := by
  intro n
  induction n with
  | zero => intro _; exact ⟨fun i _ => by show (fillF u 86 0 k).1 81 i = _; rw [fill_ne (by decide)], fun m9 h => absurd h (by omega)⟩
  | succ n ih =>
    intro hn
    obtain ⟨h1, h2⟩ := ih (by omega)
    simp only [gwF]
    generalize gwF u t x y k n = w at h1 h2 ⊢
    split
    · refine ⟨fun i hi => ?_, fun m9 hm q => ?_⟩
      · rcases gnF_81 (w := sI w 81 (t * 7 + n) 0) (t := t) (n := n) (k := k) (x := x) (y := y) hx (by omega) i with z | z
        · rw [z, sI_eq, upd_ne (hi n (by omega))]; exact h1 i hi
        · exact absurd z.1 (hi n (by omega))
      · rcases gnF_81 (w := sI w 81 (t * 7 + n) 0) (t := t) (n := n) (k := k) (x := x) (y := y) hx (by omega) (t * 7 + m9) with z | z
        · rw [z, sI_eq] at q
          by_cases e : m9 = n
          · subst e; rw [upd_at] at q; exact absurd q (by decide)
          · rw [upd_ne (by omega)] at q; exact h2 m9 (by omega) q
        · have e : m9 = n := by omega
          subst e
          exact z.2 q
    · refine ⟨fun i hi => by rw [sI_eq, upd_ne (hi n (by omega))]; exact h1 i hi, fun m9 hm q => ?_⟩
      rw [sI_eq] at q
      by_cases e : m9 = n
      · subst e; rw [upd_at] at q; exact absurd q (by decide)
      · rw [upd_ne (by omega)] at q; exact h2 m9 (by omega) q
theorem lsM_L {w : St} {t j : Nat} (h : j ≠ 87) : ∀ i, (lsM w t i).2.1 j = w.2.1 j := by
  intro i
  induction i with
  | zero => rfl
  | succ i ih => simp only [lsM]; rw [sL_ne h]; exact ih
abbrev TMs (u w : St) : Prop := Same (fun j => ¬ (81 ≤ j ∧ j < 88)) (fun j => ¬ (81 ≤ j ∧ j < 88)) (fun j => j < 11 ∨ 16 ≤ j ∨ j = 13 ∨ j = 11) (fun j => j ≠ 2) u w
theorem growM_same {u : St} {t k : Nat} {x y : Int32} : TMs u (growM u t x y k) := by
  have h := gwF_same (u := u) (t := t) (k := k) (x := x) (y := y) 7
  unfold growM
  refine ⟨fun j hj => ?_, fun j hj => ?_, fun j hj => ?_, fun j hj => ?_⟩
  · rw [(lsM_keep k).1]; exact h.1 j (by omega)
  · rw [lsM_L (by omega)]; exact h.2.1 j (by omega)
  · rw [(lsM_keep k).2]; exact h.2.2.1 j (by omega)
  · rw [(lsM_keep k).2]; exact h.2.2.2 j hj
theorem growM_81 {u : St} {t k : Nat} {x y : Int32} (hx : x ≤ 2) : (∀ i, (∀ m9, m9 < 7 → i ≠ t * 7 + m9) → (growM u t x y k).1 81 i = u.1 81 i) ∧ (∀ m9, m9 < 7 → (growM u t x y k).1 81 (t * 7 + m9) = 2 → m9 < 3) := by
  unfold growM
  rw [(lsM_keep k).1]
  exact gwF_81 hx 7 (Nat.le_refl 7)
theorem gtF_ok {b : St} {z y : Int32} {k : Nat} (hz : z ≤ 2) : ∀ t, TMs b (gtF b z y k t) ∧ ∀ t2, t2 < t → ∀ j, j < 7 → (gtF b z y k t).1 81 (t2 * 7 + j) = 2 → j < 3 := by
  intro t
  induction t with
  | zero => exact ⟨Same.rf, fun t2 h => absurd h (by omega)⟩
  | succ t ih =>
    obtain ⟨h1, h2⟩ := ih
    simp only [gtF]
    generalize gtF b z y k t = w at h1 h2 ⊢
    obtain ⟨g1, g2⟩ := growM_81 (u := w) (t := t) (k := k) (x := z) (y := y) hz
    refine ⟨Same.tr h1 growM_same, fun t2 h3 j hj q => ?_⟩
    by_cases e : t2 = t
    · subst e; exact g2 j hj q
    · rw [g1 (t2 * 7 + j) (fun m9 hm => by omega)] at q
      exact h2 t2 (by omega) j hj q
theorem sxF_keep {u w : St} {j k : Nat} : ∀ f, (∀ i, i ≠ 85 → (sxF u w j k f).1 i = w.1 i) ∧ (sxF u w j k f).2 = w.2 := by
  intro f
  induction f with
  | zero => exact ⟨fun _ _ => rfl, rfl⟩
  | succ f ih => exact ⟨fun i hi => by simp only [sxF]; rw [sI_ne hi]; exact ih.1 i hi, ih.2⟩
theorem trM_same {u : St} : ∀ j, Same (fun j => j ≠ 85) (fun j => j ≠ 87) (fun j => j ≠ 12) (fun _ => True) u (trM u j) := by
  intro j
  induction j with
  | zero => exact ⟨fun _ _ => rfl, fun _ _ => rfl, fun j hj => sF_ne hj, fun _ _ => rfl⟩
  | succ j ih =>
    refine Same.tr ih ?_
    simp only [trM]
    generalize trM u j = w
    split
    · exact Same.rf
    · split
      · exact Same.rf
      · obtain ⟨k1, k2⟩ := sxF_keep (u := u) (w := w) (j := j) (k := lvN u j) 5
        refine ⟨fun i hi => k1 i hi, fun i hi => ?_, fun i hi => ?_, fun i _ => ?_⟩
        · show (sL _ _ _ _).2.1 i = _; rw [sL_ne hi, k2]
        · rw [sF_ne hi]; show (sxF u w j (lvN u j) 5).2.2.1 i = _; rw [k2]
        · show (sxF u w j (lvN u j) 5).2.2.2 i = _; rw [k2]
theorem trST_ok {u : St} {a : Nat} {z y : Int32} (hz : z ≤ 2) : Same (fun j => ¬ (81 ≤ j ∧ j < 88)) (fun j => ¬ (81 ≤ j ∧ j < 88)) (fun j => j < 11 ∨ 16 ≤ j ∨ j = 13) (fun j => j ≠ 2) u (trST u a z y) ∧ (trST u a z y).2.2.1 11 = nI (trNN u a) ∧ ∀ t2, t2 < trNN u a → ∀ j, j < 7 → (trST u a z y).1 81 (t2 * 7 + j) = 2 → j < 3 := by
  have h0 := trM_same (u := u) 128
  unfold trST
  generalize trNN u a = n
  generalize lvN u 128 = k
  generalize trM u 128 = b at h0 ⊢
  obtain ⟨g1, g2⟩ := gtF_ok (b := sF b 11 (nI n)) (z := z) (y := y) (k := k) hz n
  generalize gtF (sF b 11 (nI n)) z y k n = w at g1 g2 ⊢
  refine ⟨⟨fun j hj => ?_, fun j hj => ?_, fun j hj => ?_, fun j hj => ?_⟩, ?_, g2⟩
  · rw [g1.1 j hj]; exact h0.1 j (by omega)
  · rw [g1.2.1 j hj]; exact h0.2.1 j (by omega)
  · rw [g1.2.2.1 j (by omega), sF_ne (by omega)]; exact h0.2.2.1 j (by omega)
  · rw [g1.2.2.2 j hj]; exact h0.2.2.2 j trivial
  · rw [g1.2.2.1 11 (by decide)]; exact sF_eq
theorem trainM_ok {u : St} (h : Inv u) (x z y : Int32) : Inv (trainM u x z y).2 := by
  unfold trainM
  split; exact h; split; exact h; split; exact h; split; exact h; split; exact h; split
  · rename_i c1 c2 c3 c4 c5 c6
    have ha : x.toNatClampNeg ≤ 4 := by
      obtain ⟨j, hj, rfl⟩ := nI_of c1
      rw [nI_clamp (by omega)]
      have : ¬ 4 < j := fun q => c2 ((nI_ltI (a := 4) (b := j) (by omega) hj).mpr q)
      omega
    have hn : trNN u x.toNatClampNeg ≤ 4 := by
      unfold trNN
      split <;> omega
    obtain ⟨g1, g2, g3⟩ := trST_ok (u := u) (a := x.toNatClampNeg) (z := z) (y := y) (le_nlt c4)
    show Inv (trST u x.toNatClampNeg z y)
    generalize trNN u x.toNatClampNeg = n at hn g2 g3
    generalize trST u x.toNatClampNeg z y = w at g1 g2 g3 ⊢
    have e10 : w.2.2.1 10 = u.2.2.1 10 := g1.2.2.1 10 (by decide)
    have ea : aM w = aM u := by unfold aM; rw [e10]
    have en : nM w = n := by unfold nM; rw [g2, nI_clamp (by omega)]
    have e80 := g1.1 80 (by omega)
    exact ⟨h.x.keep (Same.weak g1 (fun j hj => by omega) (fun j hj => by omega) (fun j hj => by omega) (fun j hj => by omega)), ⟨by rw [ea]; exact h.m.a16, by rw [e10, ea]; exact h.m.s10, fun i hi => by rw [g1.1 88 (by omega)]; exact h.m.c88 i hi, fun i hi => by rw [g1.1 89 (by omega)]; exact h.m.c89 i hi, fun j hj => by rw [e80]; exact h.m.g7 j hj, by rw [e80]; exact h.m.l16, by rw [en]; exact hn, by rw [g2, en], by rw [en]; exact g3⟩, h.t.keep (fun j hj => g1.1 j (by unfold tie1 at hj; omega)) (g1.2.2.1 0 (by decide)) (g1.2.2.1 1 (by decide)) e10⟩
  · exact h
theorem inv_train {u : St} (h : Inv u) (x z y : Int32) : Inv (trainM (trainX u x z y).2 x z y).2 := by
  obtain ⟨k, hx, ht⟩ := trainX_ok h x z y
  exact trainM_ok ⟨hx, h.m.keep k, ht⟩ x z y
