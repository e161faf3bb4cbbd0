/-! whole trees, and the row of them, grow alike -/
theorem grw_0 {w v : St} {t k : Nat} {y : Int32} (hk : k ≤ 16) (hk0 : 0 < k) (ht : t < 4) (A : smR w v k) (hc : ∀ j, j < 7 → w.1 (63 + t) j = -2) : grR (fillF (sF w 4 y) 17 0 16) (fillF v 86 0 k) t k 0 := by
  have e17 : ∀ i, i < 16 → (fillF (sF w 4 y) 17 0 16).1 17 i = 0 := fun i hi => fill_in hi
  have e86 : ∀ i, i < k → (fillF v 86 0 k).1 86 i = 0 := fun i hi => fill_in hi
  have e63 : (fillF (sF w 4 y) 17 0 16).1 (63 + t) = w.1 (63 + t) := by rw [fill_ne (by omega)]; rfl
  refine ⟨A.mv (fun j h1 h2 => by rw [fill_ne (by omega)]; rfl) (fill_ne (by decide)) rfl rfl (sF_ne (by decide)) rfl hk, fun i hi => by rw [e17 i (by omega), e86 i hi], fun j hj => absurd hj (by omega), fun j _ h2 => by rw [e63]; exact hc j h2, fun i hi => ⟨0, by omega, e17 i (by omega), ?_⟩, fun i hi j _ h2 h3 => ?_, fun j _ h2 h3 => ?_, fun i hi j hj => absurd hj (by omega), fun j hj => absurd hj (by omega)⟩
  · unfold wkX
    rw [walk_2, e63, if_pos (by rw [hc 0 (by omega)]; decide)]
  · rw [e17 i (by omega)] at h3
    exact Or.inl (nI_inj (a := 0) (by omega) (by omega) h3).symm
  · rcases h3 with z | z
    · exact ⟨0, hk0, by rw [e17 0 (by omega), z]; rfl⟩
    · exact absurd z.2 (by omega)
theorem grw_n {w v : St} {t a k : Nat} {y : Int32} (hk : k ≤ 16) (hk0 : 0 < k) (ht : t < 4) (ha : a ≤ 2) (hy : 1 ≤ y) (A : smR w v k) (hc : ∀ j, j < 7 → w.1 (63 + t) j = -2) : ∀ n, n ≤ 7 → grR (gxF w t a y k n) (gwF v t (nI a) y k n) t k n ∧ (gxF w t a y k n).2.2.1 4 = y := by
  intro n
  induction n with
  | zero => intro _; exact ⟨grw_0 hk hk0 ht A hc, sF_eq⟩
  | succ n ih =>
    intro hn
    obtain ⟨g1, g2⟩ := ih (by omega)
    refine ⟨gr_step hk (by omega) ht ha hy g2 g1, ?_⟩
    show (gxS (gxF w t a y k n) t a n k).2.2.1 4 = y
    rw [gxS_F (by decide)]
    exact g2
/-- a tree is the same on both sides; and what a walk can come to is there -/
def treeR (w v : St) (t : Nat) : Prop := (∀ j, j < 7 → nodeR w v t j) ∧ (∀ j, j < 7 → (j = 0 ∨ v.1 81 (t * 7 + (j - 1) / 2) = 2) → ¬ v.1 81 (t * 7 + j) = 0)
theorem treeR.mv {w v w2 v2 : St} {t : Nat} (h : treeR w v t) (e1 : w2.1 (63 + t) = w.1 (63 + t)) (e2 : w2.1 (67 + t) = w.1 (67 + t)) (e3 : w2.2.1 (71 + t) = w.2.1 (71 + t)) (e4 : ∀ j, j < 7 → v2.1 81 (t * 7 + j) = v.1 81 (t * 7 + j) ∧ v2.1 82 (t * 7 + j) = v.1 82 (t * 7 + j) ∧ v2.1 83 (t * 7 + j) = v.1 83 (t * 7 + j) ∧ v2.2.1 84 (t * 7 + j) = v.2.1 84 (t * 7 + j)) : treeR w2 v2 t := by
  refine ⟨fun j hj => (h.1 j hj).mv (by rw [e1]) (by rw [e2]) (by rw [e3]) (e4 j hj).1 (e4 j hj).2.1 (e4 j hj).2.2.1 (e4 j hj).2.2.2, fun j hj q => ?_⟩
  rw [(e4 j hj).1]
  refine h.2 j hj ?_
  rcases q with z | z
  · exact Or.inl z
  · exact Or.inr (by rw [← (e4 ((j - 1) / 2) (by omega)).1]; exact z)
theorem rsX_15 {w : St} {t : Nat} : ∀ i j, (rsX w t i).2.1 15 j = (if j < i then w.2.1 15 j - w.2.1 (71 + t) (wkX w t j) else w.2.1 15 j) := by
  intro i
  induction i with
  | zero => intro j; rw [if_neg (by omega)]; rfl
  | succ i ih =>
    intro j
    simp only [rsX]
    rw [sL_eq]
    by_cases e : j = i
    · rw [e, vp_at, if_pos (by omega)]; rfl
    · rw [vp_ne e, ih j]
      by_cases e2 : j < i
      · rw [if_pos e2, if_pos (by omega)]
      · rw [if_neg e2, if_neg (by omega)]
theorem lsM_87 {v : St} {t : Nat} : ∀ i j, (lsM v t i).2.1 87 j = (if j < i then v.2.1 87 j - v.2.1 84 (t * 7 + (v.1 86 j).toNatClampNeg) else v.2.1 87 j) := by
  intro i
  induction i with
  | zero => intro j; rw [if_neg (by omega)]; rfl
  | succ i ih =>
    intro j
    simp only [lsM]
    rw [sL_eq]
    by_cases e : j = i
    · rw [e, vp_at, if_pos (by omega)]
    · rw [vp_ne e, ih j]
      by_cases e2 : j < i
      · rw [if_pos e2, if_pos (by omega)]
      · rw [if_neg e2, if_neg (by omega)]
theorem grow_R {w v : St} {t a k : Nat} {y : Int32} (hk : k ≤ 16) (hk0 : 0 < k) (ht : t < 4) (ha : a ≤ 2) (hy : 1 ≤ y) (A : smR w v k) (hc : ∀ j, j < 7 → w.1 (63 + t) j = -2) : smR (growX w t a y k) (growM v t (nI a) y k) k ∧ treeR (growX w t a y k) (growM v t (nI a) y k) t := by
  obtain ⟨g, -⟩ := grw_n (a := a) (y := y) hk hk0 ht ha hy A hc 7 (Nat.le_refl 7)
  unfold growX growM
  generalize gxF w t a y k 7 = W9 at g ⊢
  generalize gwF v t (nI a) y k 7 = V9 at g ⊢
  obtain ⟨A2, B, C, -, E, -, -, P4, P5⟩ := g
  have k1 : (rsX W9 t k).1 = W9.1 := (rsX_keep k).1
  have k2 : (rsX W9 t k).2.2 = W9.2.2 := (rsX_keep k).2
  have l1 : (lsM V9 t k).1 = V9.1 := (lsM_keep k).1
  have l2 : (lsM V9 t k).2.2 = V9.2.2 := (lsM_keep k).2
  obtain ⟨a1, a2, a3, a4, a5, a6⟩ := A2
  refine ⟨⟨fun f hf i hi => by rw [k1, l1]; exact a1 f hf i hi, fun i hi => ?_, by rw [k2]; exact a3, by rw [l2]; exact a4, fun f hf => (a5 f hf).mv (fun i _ => by rw [k1]) (fun i _ => by rw [k1]), fun f hf i hi => by rw [k1]; exact a6 f hf i hi⟩, fun j hj => ?_, fun j hj q => ?_⟩
  · rw [rsX_15, lsM_87, if_pos hi, if_pos hi, ← a2 i hi]
    obtain ⟨j, hj, h5, h6⟩ := E i hi
    rw [h6, ← B i hi, h5, nI_clamp (by omega)]
    have h7 := P4 i hi j hj h5
    have hl : W9.2.1 (71 + t) j = V9.2.1 84 (t * 7 + j) := by
      rcases C j hj with z | z | ⟨f, hf, z, -⟩
      · rw [h7] at z; exact absurd z.1 (by decide)
      · exact z.2.2.2
      · rw [h7] at z
        exact absurd (show nI f < 0 by rw [← z]; decide) (gez (nI_ge0 (by omega)))
    rw [hl]
  · refine (C j hj).mv (by rw [k1]) (by rw [k1]) ?_ (by rw [l1]) (by rw [l1]) (by rw [l1]) ?_
    · rw [rsX_L (by omega)]
    · rw [lsM_L (by decide)]
  · rw [l1] at q ⊢
    refine P5 j hj ?_
    rcases q with z | z
    · exact Or.inl z
    · exact Or.inr ⟨z, by omega⟩
theorem gnF_ix {w : St} {t n k i : Nat} (h : i ≠ t * 7 + n) : (gnF w t n k).1 81 i = w.1 81 i ∧ (gnF w t n k).1 82 i = w.1 82 i ∧ (gnF w t n k).1 83 i = w.1 83 i ∧ (gnF w t n k).2.1 84 i = w.2.1 84 i := by
  unfold gnF
  split
  · refine ⟨?_, ?_, ?_, ?_⟩
    · show (sI w 81 (t * 7 + n) 1).1 81 i = _; rw [sI_eq, upd_ne h]
    · show (sI w 81 (t * 7 + n) 1).1 82 i = _; rw [sI_ne (by decide)]
    · show (sI w 81 (t * 7 + n) 1).1 83 i = _; rw [sI_ne (by decide)]
    · show (sL _ _ _ _).2.1 84 i = _; rw [sL_eq, vp_ne h]; rfl
  · refine ⟨?_, ?_, ?_, ?_⟩
    · rw [sendM_ne (by decide), sI_ne (by decide), sI_ne (by decide), sI_eq, upd_ne h]
    · rw [sendM_ne (by decide), sI_ne (by decide), sI_eq, upd_ne h, sI_ne (by decide)]
    · rw [sendM_ne (by decide), sI_eq, upd_ne h, sI_ne (by decide), sI_ne (by decide)]
    · rw [sendM_2]; rfl
theorem gwF_ix {u : St} {t k i : Nat} {x y : Int32} : ∀ n, n ≤ 7 → (∀ m9, m9 < 7 → i ≠ t * 7 + m9) → (gwF u t x y k n).1 81 i = u.1 81 i ∧ (gwF u t x y k n).1 82 i = u.1 82 i ∧ (gwF u t x y k n).1 83 i = u.1 83 i ∧ (gwF u t x y k n).2.1 84 i = u.2.1 84 i := by
  intro n
  induction n with
  | zero =>
    intro _ _
    refine ⟨?_, ?_, ?_, rfl⟩
    · show (fillF u 86 0 k).1 81 i = _; rw [fill_ne (by decide)]
    · show (fillF u 86 0 k).1 82 i = _; rw [fill_ne (by decide)]
    · show (fillF u 86 0 k).1 83 i = _; rw [fill_ne (by decide)]
  | succ n ih =>
    intro hn hi
    obtain ⟨h1, h2, h3, h4⟩ := ih (by omega) hi
    simp only [gwF]
    generalize gwF u t x y k n = w at h1 h2 h3 h4 ⊢
    have hne := hi n (by omega)
    split
    · obtain ⟨g1, g2, g3, g4⟩ := gnF_ix (w := selS (sI w 81 (t * 7 + n) 0) n x y k) (t := t) (n := n) (k := k) (i := i) hne
      rw [g1, g2, g3, g4, selS_1, selS_21, sI_eq, upd_ne hne, sI_ne (by decide), sI_ne (by decide)]
      exact ⟨h1, h2, h3, h4⟩
    · rw [sI_eq, upd_ne hne, sI_ne (by decide), sI_ne (by decide)]
      exact ⟨h1, h2, h3, h4⟩
theorem growM_ix {u : St} {t k i : Nat} {x y : Int32} (hi : ∀ m9, m9 < 7 → i ≠ t * 7 + m9) : (growM u t x y k).1 81 i = u.1 81 i ∧ (growM u t x y k).1 82 i = u.1 82 i ∧ (growM u t x y k).1 83 i = u.1 83 i ∧ (growM u t x y k).2.1 84 i = u.2.1 84 i := by
  unfold growM
  rw [(lsM_keep k).1, lsM_L (by decide)]
  exact gwF_ix 7 (Nat.le_refl 7) hi
/-- the row of trees -/
theorem gt_R {b c9 : St} {a k : Nat} {y : Int32} (hk : k ≤ 16) (hk0 : 0 < k) (ha : a ≤ 2) (hy : 1 ≤ y) (A : smR b c9 k) : ∀ T, T ≤ 4 → smR (gtX b a y k T) (gtF c9 (nI a) y k T) k ∧ ∀ t, t < T → treeR (gtX b a y k T) (gtF c9 (nI a) y k T) t := by
  intro T
  induction T with
  | zero => intro _; exact ⟨A, fun t ht => absurd ht (by omega)⟩
  | succ T ih =>
    intro hT
    obtain ⟨g1, g2⟩ := ih (by omega)
    simp only [gtX, gtF]
    generalize gtX b a y k T = w at g1 g2 ⊢
    generalize gtF c9 (nI a) y k T = v at g1 g2 ⊢
    have A2 : smR (fillF (sF w 2 (nI (T + 1))) (63 + T) (-2) 7) v k := g1.mv (fun j h1 h2 => by rw [fill_ne (by omega)]; rfl) rfl rfl rfl (sF_ne (by decide)) rfl hk
    obtain ⟨r1, r2⟩ := grow_R (a := a) (y := y) (t := T) hk hk0 (by omega) ha hy A2 (fun j hj => fill_in hj)
    refine ⟨r1, fun t ht => ?_⟩
    by_cases e : t = T
    · rw [e]; exact r2
    · have s1 := growX_same (u := fillF (sF w 2 (nI (T + 1))) (63 + T) (-2) 7) (t := T) (a := a) (k := k) (y := y) (by omega)
      refine (g2 t (by omega)).mv ?_ ?_ ?_ (fun j hj => growM_ix (fun m9 hm => by omega))
      · rw [s1.1 _ ⟨by omega, by omega, by omega⟩, fill_ne (by omega)]; rfl
      · rw [s1.1 _ ⟨by omega, by omega, by omega⟩, fill_ne (by omega)]; rfl
      · rw [s1.2.1 _ ⟨by omega, by omega⟩]; rfl
