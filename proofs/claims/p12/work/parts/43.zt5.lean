/-! a tree grows alike: the steps of both sides -/
def gwS (v : St) (t : Nat) (x y : Int32) (k n : Nat) : St := if n = 0 ∨ (sI v 81 (t * 7 + n) 0).1 81 (t * 7 + (n - 1) / 2) = 2 then gnF (selS (sI v 81 (t * 7 + n) 0) n x y k) t n k else sI v 81 (t * 7 + n) 0
theorem ns_eq {r : Nat → Int64} {nd : Nat → Int32} {x : Int32} : ∀ j, nsF r nd x j = NSf nd r x j := by
  intro j
  induction j with
  | zero => rfl
  | succ j ih =>
    simp only [nsF]
    rw [NSf_s, ih]
    by_cases a : nd j = x
    · rw [if_pos a, if_pos a]
    · rw [if_neg a, if_neg a, Int64.add_zero]
theorem nc_eq {nd : Nat → Int32} {x : Int32} : ∀ j, ncF nd x j = nI (NCf nd x j) := by
  intro j
  induction j with
  | zero => rfl
  | succ j ih =>
    simp only [ncF]
    rw [NCf_s, ih]
    by_cases a : nd j = x
    · rw [if_pos a, if_pos a]; exact nI_1 _
    · rw [if_neg a, if_neg a]; rfl
theorem cn_eq {nd : Nat → Int32} {x : Int32} : ∀ j, cnN nd x j = NCf nd x j := by
  intro j
  induction j with
  | zero => rfl
  | succ j ih =>
    simp only [cnN]
    rw [NCf_s, ih]
    by_cases a : nd j = x
    · rw [if_pos a, if_pos a]
    · rw [if_neg a, if_neg a]; rfl
theorem lv_mb : ∀ a, a ≤ 2 → ∀ n, n < 7 → (nI a ≤ lvlF n ↔ mbN a ≤ n) := by
  intro a ha n hn
  exact (show ∀ a, a ≤ 2 → ∀ n, n < 7 → (nI a ≤ lvlF n ↔ mbN a ≤ n) by decide) a ha n hn
theorem vp_ne {f : Nat → Int64} {j i : Nat} {x : Int64} (h : i ≠ j) : vp_updL f j x i = f i := if_neg h
theorem vp_at {f : Nat → Int64} {j : Nat} {x : Int64} : vp_updL f j x j = x := if_pos rfl
theorem gr_leaf {w v W9 V9 : St} {t k n : Nat} {val : Int64} (hk : k ≤ 16) (hn : n < 7) (ht : t < 4) (h : grR w v t k n) (a1 : W9.1 = w.1) (a2 : W9.2.1 = w.2.1) (a3 : W9.2.2.1 3 = w.2.2.1 3) (b1 : V9.1 = (sI v 81 (t * 7 + n) 0).1) (b2 : V9.2.1 = v.2.1) (b3 : V9.2.2.1 12 = v.2.2.1 12) :
    grR (sL (sI (sI W9 (63 + t) n (-1)) (67 + t) n (-1)) (71 + t) n val) (sL (sI V9 81 (t * 7 + n) 1) 84 (t * 7 + n) val) t k (n + 1) := by
  have c81 : (sL (sI V9 81 (t * 7 + n) 1) 84 (t * 7 + n) val).1 81 = upd (V9.1 81) (t * 7 + n) 1 := by
    show (sI V9 81 (t * 7 + n) 1).1 81 = _
    rw [sI_eq]
  have c63 : (sL (sI (sI W9 (63 + t) n (-1)) (67 + t) n (-1)) (71 + t) n val).1 (63 + t) = upd (w.1 (63 + t)) n (-1) := by
    show (sI (sI W9 (63 + t) n (-1)) (67 + t) n (-1)).1 (63 + t) = _
    rw [sI_ne (by omega), sI_eq, a1]
  have c67 : (sL (sI (sI W9 (63 + t) n (-1)) (67 + t) n (-1)) (71 + t) n val).1 (67 + t) = upd (w.1 (67 + t)) n (-1) := by
    show (sI (sI W9 (63 + t) n (-1)) (67 + t) n (-1)).1 (67 + t) = _
    rw [sI_eq, sI_ne (by omega), a1]
  have c71 : (sL (sI (sI W9 (63 + t) n (-1)) (67 + t) n (-1)) (71 + t) n val).2.1 (71 + t) = vp_updL (W9.2.1 (71 + t)) n val := sL_eq
  have c84 : (sL (sI V9 81 (t * 7 + n) 1) 84 (t * 7 + n) val).2.1 84 = vp_updL (V9.2.1 84) (t * 7 + n) val := sL_eq
  refine gr_still (x9 := -1) hk hn ht h (by decide) (fun j h1 h2 => ?_) c63 (fun j hj => by rw [c67, upd_ne hj]) (fun j hj => by rw [c71, vp_ne hj, a2]) ?_ a3 (fun j hj => ?_) (fun j hj => ?_) (fun j hj => by rw [c84, vp_ne hj, b2]) ?_ b3 ?_ ?_ (Or.inl rfl) (fun _ => ?_)
  · show (sI (sI W9 (63 + t) n (-1)) (67 + t) n (-1)).1 j = _
    rw [sI_ne h2, sI_ne h1, a1]
  · show (sL _ (71 + t) n val).2.1 15 = _
    rw [sL_ne (by omega)]
    exact congrFun a2 15
  · show (sI V9 81 (t * 7 + n) 1).1 j = _
    rw [sI_ne hj, b1, sI_ne hj]
  · rw [c81, upd_ne hj, b1, sI_eq, upd_ne hj]
  · show (sL _ 84 _ val).2.1 87 = _
    rw [sL_ne (by decide)]
    exact congrFun b2 87
  · exact Or.inr (Or.inl ⟨by rw [c63, upd_at], by rw [c67, upd_at], by rw [c81, upd_at], by rw [c71, vp_at, c84, vp_at]⟩)
  · rw [c81, upd_at]; decide
  · rw [c81, upd_at]; decide
theorem gr_step {w v : St} {t a k n : Nat} {y : Int32} (hk : k ≤ 16) (hn : n < 7) (ht : t < 4) (ha : a ≤ 2) (hy : 1 ≤ y) (h4 : w.2.2.1 4 = y) (h : grR w v t k n) : grR (gxS w t a n k) (gwS v t (nI a) y k n) t k (n + 1) := by
  obtain ⟨A, B, C, Dd, E, P1, P2, P4, P5⟩ := id h
  have hNC := NC_le (nd := w.1 17) (x := nI n) k
  have hcond : (n = 0 ∨ (sI v 81 (t * 7 + n) 0).1 81 (t * 7 + (n - 1) / 2) = 2) ↔ parS v t n n := by
    unfold parS
    by_cases e : n = 0
    · exact ⟨fun _ => Or.inl e, fun _ => Or.inl e⟩
    · rw [sI_eq, upd_ne (by omega)]
      exact ⟨fun q => q.elim (fun z => absurd z e) (fun z => Or.inr ⟨z, by omega⟩), fun q => q.elim (fun z => absurd z e) (fun z => Or.inr z.1)⟩
  by_cases hp : parS v t n n
  · obtain ⟨i0, hi0, hi1⟩ := P2 n (Nat.le_refl n) hn hp
    have hpos : ¬ NCf (w.1 17) (nI n) k = 0 := by
      have := sumN_pos (g := fun i => if w.1 17 i = nI n then 1 else 0) (j := i0) (by show 1 ≤ (if w.1 17 i0 = nI n then 1 else 0); rw [if_pos hi1]; exact Nat.le_refl 1) k hi0
      have e : NCf (w.1 17) (nI n) k = sumG Nat.add 0 (fun i => if w.1 17 i = nI n then 1 else 0) k := rfl
      omega
    have hnc : ¬ ncF (w.1 17) (nI n) k ≤ 0 := by
      rw [nc_eq]
      intro q
      have := (nI_leI (a := NCf (w.1 17) (nI n) k) (b := 0) (by omega) (by omega)).mp q
      omega
    -- the values of a leaf
    have cN : NCf (v.1 86) (nI n) k = NCf (w.1 17) (nI n) k := NC_c (fun i hi => (B i hi).symm)
    have cS : NSf (v.1 86) (v.2.1 87) (nI n) k = NSf (w.1 17) (w.2.1 15) (nI n) k := NS_c (fun i hi => (B i hi).symm) (fun i hi => (A.2.1 i hi).symm)
    have s0 : (suF w n k).2.2.2 0 = NSf (w.1 17) (w.2.1 15) (nI n) k := by rw [← ns_eq]; exact sG_eq (u := w) (k := 0) (x := nsF (w.2.1 15) (w.1 17) (nI n) k)
    have s5 : (suF w n k).2.2.1 5 = nI (NCf (w.1 17) (nI n) k) := by rw [← nc_eq]; exact sF_eq
    have v86 : (sI v 81 (t * 7 + n) 0).1 86 = v.1 86 := sI_ne (by decide)
    have v85 : (sI v 81 (t * 7 + n) 0).1 85 = v.1 85 := sI_ne (by decide)
    unfold gwS gxS
    rw [if_pos (hcond.mpr hp), if_neg hnc]
    by_cases hm : mbN a ≤ n
    · rw [if_pos hm]
      have hl := (lv_mb a ha n hn).mpr hm
      have hs : selS (sI v 81 (t * 7 + n) 0) n (nI a) y k = sF (sI v 81 (t * 7 + n) 0) 14 (-1) := if_pos hl
      rw [hs]
      unfold gnF lfX
      rw [if_pos (show (sF (sI v 81 (t * 7 + n) 0) 14 (-1)).2.2.1 14 < 0 by rw [sF_eq]; decide)]
      have e1 : nsF ((sF (sI v 81 (t * 7 + n) 0) 14 (-1)).2.1 87) ((sF (sI v 81 (t * 7 + n) 0) 14 (-1)).1 86) (nI n) k = NSf (w.1 17) (w.2.1 15) (nI n) k := by
        rw [ns_eq, ← cS]
        show NSf ((sI v 81 (t * 7 + n) 0).1 86) (v.2.1 87) (nI n) k = _
        rw [v86]
      have e2 : cnN ((sF (sI v 81 (t * 7 + n) 0) 14 (-1)).1 86) (nI n) k = NCf (w.1 17) (nI n) k := by
        rw [cn_eq, ← cN]
        show NCf ((sI v 81 (t * 7 + n) 0).1 86) (nI n) k = _
        rw [v86]
      rw [e1, e2, s0, s5, shareI_n (by omega)]
      exact gr_leaf hk hn ht h rfl rfl rfl rfl rfl rfl
    · rw [if_neg hm]
      have hn3 : n < 3 := by have := mbN_le a ha; omega
      have hl : ¬ nI a ≤ lvlF n := fun q => hm ((lv_mb a ha n hn).mp q)
      have hs : selS (sI v 81 (t * 7 + n) 0) n (nI a) y k = fMF (sF (sI v 81 (t * 7 + n) 0) 14 (-1)) (nI n) y k 5 := if_neg hl
      rw [hs]
      have hsr := search_eq (w := w) (v := sF (sI v 81 (t * 7 + n) 0) 14 (-1)) (n := n) hk A.2.2.2.2.1 A.2.2.2.2.2 (by rw [h4]; exact hy) (fun i hi => by show _ = (sI v 81 (t * 7 + n) 0).1 86 i; rw [v86]; exact B i hi) (fun f hf i hi => by show _ = (sI v 81 (t * 7 + n) 0).1 85 (i * 5 + f); rw [v85]; exact A.1 f hf i hi) A.2.1 hpos
      rw [h4] at hsr
      obtain ⟨⟨-, r2, r3⟩, hV⟩ := hsr
      have W1 : (fsF (suF w n k) (nI n) k 5).1 = w.1 := fsF_1
      have W2 : (fsF (suF w n k) (nI n) k 5).2.1 = w.2.1 := fsF_21
      have W3 : (fsF (suF w n k) (nI n) k 5).2.2.1 3 = w.2.2.1 3 := fsF_3
      have W5 : (fsF (suF w n k) (nI n) k 5).2.2.1 5 = nI (NCf (w.1 17) (nI n) k) := by rw [← s5]; exact fsF_F (by decide)
      have W0 : (fsF (suF w n k) (nI n) k 5).2.2.2 0 = NSf (w.1 17) (w.2.1 15) (nI n) k := by rw [← s0]; exact fsF_G (by decide)
      have V1 : (fMF (sF (sI v 81 (t * 7 + n) 0) 14 (-1)) (nI n) y k 5).1 = (sI v 81 (t * 7 + n) 0).1 := fMF_1.1
      have V2 : (fMF (sF (sI v 81 (t * 7 + n) 0) 14 (-1)) (nI n) y k 5).2.1 = v.2.1 := fMF_1.2
      have V3 : (fMF (sF (sI v 81 (t * 7 + n) 0) 14 (-1)) (nI n) y k 5).2.2.1 12 = v.2.2.1 12 := fMF_12
      have q6 : (fsF (suF w n k) (nI n) k 5).2.2.1 6 = (fMF (sF (sI v 81 (t * 7 + n) 0) 14 (-1)) (nI n) y k 5).2.2.1 14 := r2
      have q7 : (fsF (suF w n k) (nI n) k 5).2.2.1 6 = -1 ∨ (fsF (suF w n k) (nI n) k 5).2.2.1 7 = (fMF (sF (sI v 81 (t * 7 + n) 0) 14 (-1)) (nI n) y k 5).2.2.1 15 := r3
      have qV : (fsF (suF w n k) (nI n) k 5).2.2.1 6 = -1 ∨ ∃ f t2 : Nat, f < 5 ∧ t2 < 200 ∧ (fsF (suF w n k) (nI n) k 5).2.2.1 6 = nI f ∧ (fsF (suF w n k) (nI n) k 5).2.2.1 7 = nI t2 ∧ ¬ LCf (w.1 17) (fun j => w.1 (38 + j) f) (nI n) k (nI t2) = 0 ∧ ¬ HCf (w.1 17) (fun j => w.1 (38 + j) f) (nI n) k (nI t2) = 0 := hV
      clear r2 r3 hV hs
      generalize fsF (suF w n k) (nI n) k 5 = W9 at W1 W2 W3 W5 W0 q6 q7 qV ⊢
      generalize fMF (sF (sI v 81 (t * 7 + n) 0) 14 (-1)) (nI n) y k 5 = V9 at V1 V2 V3 q6 q7 ⊢
      by_cases h6 : W9.2.2.1 6 = -1
      · rw [if_pos h6]
        unfold gnF lfX
        rw [if_pos (show V9.2.2.1 14 < 0 by rw [← q6, h6]; decide)]
        have e1 : nsF (V9.2.1 87) (V9.1 86) (nI n) k = NSf (w.1 17) (w.2.1 15) (nI n) k := by rw [ns_eq, ← cS, V1, V2, v86]
        have e2 : cnN (V9.1 86) (nI n) k = NCf (w.1 17) (nI n) k := by rw [cn_eq, ← cN, V1, v86]
        rw [e1, e2, W0, W5, shareI_n (by omega)]
        exact gr_leaf hk hn ht h W1 W2 W3 V1 V2 V3
      · rw [if_neg h6]
        obtain ⟨fe, t2, hfe, ht2, z6, z7, zL, zH⟩ := qV.resolve_left h6
        have z15 : V9.2.2.1 15 = nI t2 := by rw [← q7.resolve_left h6]; exact z7
        have z14 : V9.2.2.1 14 = nI fe := by rw [← q6]; exact z6
        unfold gnF spX
        rw [if_neg (show ¬ V9.2.2.1 14 < 0 by rw [z14]; exact gez (nI_ge0 (by omega))), z6, z7, z14, z15, nI_clamp (by omega)]
        have k67 : (sendF (sL (sI (sI W9 (63 + t) n (nI fe)) (67 + t) n (nI t2)) (71 + t) n 0) t n fe k).1 (67 + t) = upd (w.1 (67 + t)) n (nI t2) := by
          rw [sendF_ne (by omega)]
          show (sI (sI W9 (63 + t) n (nI fe)) (67 + t) n (nI t2)).1 (67 + t) = _
          rw [sI_eq, sI_ne (by omega), W1]
        refine gr_split (fe := fe) (r := nI t2) hk hn3 ht hfe h (fun j h1 h2 h3 => ?_) ?_ k67 (fun i hi => ?_) (fun j hj => ?_) ?_ ?_ ?_ (fun i hi => ?_) ?_ ?_ ?_ ?_ ?_ ?_ ?_ ?_
        · rw [sendF_ne h3]
          show (sI (sI W9 (63 + t) n (nI fe)) (67 + t) n (nI t2)).1 j = _
          rw [sI_ne h2, sI_ne h1, W1]
        · rw [sendF_ne (by omega)]
          show (sI (sI W9 (63 + t) n (nI fe)) (67 + t) n (nI t2)).1 (63 + t) = _
          rw [sI_ne (by omega), sI_eq, W1]
        · rw [sendF_17, k67]
          have e17 : (sL (sI (sI W9 (63 + t) n (nI fe)) (67 + t) n (nI t2)) (71 + t) n 0).1 17 = w.1 17 := by
            show (sI (sI W9 (63 + t) n (nI fe)) (67 + t) n (nI t2)).1 17 = _
            rw [sI_ne (by omega), sI_ne (by omega), W1]
          have e38 : (sL (sI (sI W9 (63 + t) n (nI fe)) (67 + t) n (nI t2)) (71 + t) n 0).1 (38 + i) = w.1 (38 + i) := by
            show (sI (sI W9 (63 + t) n (nI fe)) (67 + t) n (nI t2)).1 (38 + i) = _
            rw [sI_ne (by omega), sI_ne (by omega), W1]
          have e67 : (sL (sI (sI W9 (63 + t) n (nI fe)) (67 + t) n (nI t2)) (71 + t) n 0).1 (67 + t) = upd (w.1 (67 + t)) n (nI t2) := by
            show (sI (sI W9 (63 + t) n (nI fe)) (67 + t) n (nI t2)).1 (67 + t) = _
            rw [sI_eq, sI_ne (by omega), W1]
          rw [e17, e38, e67]
          by_cases q : w.1 17 i = nI n
          · have q2 : i < k ∧ w.1 17 i = nI n := ⟨hi, q⟩
            rw [if_pos q, if_pos q2]
          · have q2 : ¬ (i < k ∧ w.1 17 i = nI n) := fun z => q z.2
            rw [if_neg q, if_neg q2]
        · rw [sendF_2]
          show (sL _ (71 + t) n 0).2.1 (71 + t) j = _
          rw [sL_eq, vp_ne hj]
          exact congrFun (congrFun W2 (71 + t)) j
        · rw [sendF_2]
          show (sL _ (71 + t) n 0).2.1 15 = _
          rw [sL_ne (by omega)]
          exact congrFun W2 15
        · rw [sendF_2]; exact W3
        · rw [sendM_ne (by decide), sI_ne (by decide), sI_ne (by decide), sI_ne (by decide), V1, v85]
        · rw [sendM_86]
          have e86 : (sI (sI (sI V9 81 (t * 7 + n) 2) 82 (t * 7 + n) (nI fe)) 83 (t * 7 + n) (nI t2)).1 86 = v.1 86 := by rw [sI_ne (by decide), sI_ne (by decide), sI_ne (by decide), V1, v86]
          have e85 : (sI (sI (sI V9 81 (t * 7 + n) 2) 82 (t * 7 + n) (nI fe)) 83 (t * 7 + n) (nI t2)).1 85 = v.1 85 := by rw [sI_ne (by decide), sI_ne (by decide), sI_ne (by decide), V1, v85]
          rw [e86, e85]
          show (if i < k ∧ v.1 86 i = nI n then (if v.1 85 (i * 5 + fe) ≤ V9.2.2.1 15 then nI (2 * n + 1) else nI (2 * n + 2)) else v.1 86 i) = _
          rw [z15]
          by_cases q : v.1 86 i = nI n
          · have q2 : i < k ∧ v.1 86 i = nI n := ⟨hi, q⟩
            rw [if_pos q, if_pos q2]
          · have q2 : ¬ (i < k ∧ v.1 86 i = nI n) := fun z => q z.2
            rw [if_neg q, if_neg q2]
        · rw [sendM_ne (by decide), sI_ne (by decide), sI_ne (by decide), sI_eq, V1, sI_eq]
          funext j
          unfold upd
          by_cases e : j = t * 7 + n
          · rw [if_pos e, if_pos e]
          · rw [if_neg e, if_neg e, if_neg e]
        · rw [sendM_ne (by decide), sI_ne (by decide), sI_eq, sI_ne (by decide), V1, sI_ne (by decide)]
        · rw [sendM_ne (by decide), sI_eq, sI_ne (by decide), sI_ne (by decide), V1, sI_ne (by decide)]
        · rw [sendM_2]; exact congrFun V2 84
        · rw [sendM_2]; exact congrFun V2 87
        · rw [sendM_2]; exact V3
        · obtain ⟨i, hi, q⟩ := sumN_ex (g := fun i => if w.1 17 i = nI n then (if w.1 (38 + i) fe ≤ nI t2 then 1 else 0) else 0) k (Nat.pos_of_ne_zero zL)
          refine ⟨i, hi, ?_⟩
          by_cases q1 : w.1 17 i = nI n
          · rw [if_pos q1] at q
            by_cases q2 : w.1 (38 + i) fe ≤ nI t2
            · exact ⟨q1, q2⟩
            · rw [if_neg q2] at q; exact absurd q (by decide)
          · rw [if_neg q1] at q; exact absurd q (by decide)
        · obtain ⟨i, hi, q⟩ := sumN_ex (g := fun i => if w.1 17 i = nI n then (if w.1 (38 + i) fe ≤ nI t2 then 0 else 1) else 0) k (Nat.pos_of_ne_zero zH)
          refine ⟨i, hi, ?_⟩
          by_cases q1 : w.1 17 i = nI n
          · rw [if_pos q1] at q
            by_cases q2 : w.1 (38 + i) fe ≤ nI t2
            · rw [if_pos q2] at q; exact absurd q (by decide)
            · exact ⟨q1, q2⟩
          · rw [if_neg q1] at q; exact absurd q (by decide)
  · have hnone : ∀ i, i < k → ¬ w.1 17 i = nI n := fun i hi q => hp (P1 i hi n (Nat.le_refl n) hn q)
    have hz : NCf (w.1 17) (nI n) k = 0 := sumG_cut (add := Nat.add) (z := 0) (o := 0) adN_0 (i := 0) k (Nat.zero_le k) (fun j _ hj => if_neg (hnone j hj))
    have hnc : ncF (w.1 17) (nI n) k ≤ 0 := by rw [nc_eq, hz]; decide
    unfold gwS gxS
    rw [if_neg (fun q => hp (hcond.mp q)), if_pos hnc]
    have hD := Dd n (Nat.le_refl n) hn
    refine gr_still (x9 := -2) hk hn ht h (by decide) (fun _ _ _ => rfl) ?_ (fun _ _ => rfl) (fun _ _ => rfl) rfl (suF_F (by decide)) (fun j hj => sI_ne hj) (fun j hj => by rw [sI_eq, upd_ne hj]) (fun _ _ => rfl) rfl rfl (Or.inl ⟨hD, by rw [sI_eq, upd_at]⟩) (by rw [sI_eq, upd_at]; decide) (Or.inr hnone) (fun q => absurd q hp)
    funext j
    show w.1 (63 + t) j = _
    unfold upd
    by_cases e : j = n
    · rw [if_pos e, e, hD]
    · rw [if_neg e]
