/-! the samples are gathered alike -/
theorem win_d {d : Nat} (hd : d < 16) : ¬ withinF (nI d) 15 = 0 := by
  rw [show withinF (nI d) 15 = 1 from withinF_t (gez (nI_ge0 (by omega))) (fun z => absurd ((nI_ltI (a := 15) (b := d) (by omega) (by omega)).mp z) (by omega))]
  decide
theorem inn_d {d : Nat} (hd : d < 16) : ¬ inF (nI d) 16 = 0 := by
  rw [show inF (nI d) 16 = 1 from inF_t (gez (nI_ge0 (by omega))) (fun z => absurd ((nI_leI (a := 16) (b := d) (by omega) (by omega)).mp z) (by omega))]
  decide
def Bnd (u : St) : Prop := (∀ d, d < 16 → ∀ t, t < 12 → ∃ z : Nat, z ≤ 15 ∧ u.1 (22 + d) t = nI z) ∧ ∀ d, d < 16 → ∃ z : Nat, z ≤ 15 ∧ u.1 10 d = nI z
theorem had_b {f : Nat → Int32} {m9 : Int32} : ∀ n, ∃ z : Nat, z ≤ n ∧ hadF f m9 n = nI z := by
  intro n
  induction n with
  | zero => exact ⟨0, Nat.le_refl 0, rfl⟩
  | succ n ih =>
    obtain ⟨z, hz, e⟩ := ih
    simp only [hadF]
    split
    · exact ⟨z, by omega, e⟩
    · exact ⟨z + 1, by omega, by rw [e]; exact nI_1 z⟩
theorem sel_b {f : Nat → Int32} {m9 : Int32} : ∀ n, (∀ i, i < n → ∃ z : Nat, z ≤ 15 ∧ f i = nI z) → ∃ z : Nat, z ≤ 15 * n ∧ selF f m9 n = nI z := by
  intro n
  induction n with
  | zero => intro _; exact ⟨0, Nat.le_refl 0, rfl⟩
  | succ n ih =>
    intro h
    obtain ⟨z, hz, e⟩ := ih (fun i hi => h i (by omega))
    obtain ⟨a, ha, e2⟩ := h n (by omega)
    simp only [selF]
    split
    · exact ⟨z, by omega, e⟩
    · exact ⟨z + a, by omega, by rw [e, e2]; exact nI_add z a⟩
theorem sum_b {f : Nat → Int32} : ∀ n, (∀ i, i < n → ∃ z : Nat, z ≤ 15 ∧ f i = nI z) → ∃ z : Nat, z ≤ 15 * n ∧ sumF f n = nI z := by
  intro n
  induction n with
  | zero => intro _; exact ⟨0, Nat.le_refl 0, rfl⟩
  | succ n ih =>
    intro h
    obtain ⟨z, hz, e⟩ := ih (fun i hi => h i (by omega))
    obtain ⟨a, ha, e2⟩ := h n (by omega)
    simp only [sumF]
    exact ⟨z + a, by omega, by rw [e, e2]; exact nI_add z a⟩
theorem grt_b {f : Nat → Int32} {m9 : Int32} : ∀ n, (∀ i, i < n → ∃ z : Nat, z ≤ 15 ∧ f i = nI z) → ∃ z : Nat, z ≤ 15 ∧ grF f m9 n = nI z := by
  intro n
  induction n with
  | zero => intro _; exact ⟨0, by omega, rfl⟩
  | succ n ih =>
    intro h
    have hi := ih (fun i hi => h i (by omega))
    simp only [grF]
    split
    · exact hi
    · split
      · exact hi
      · exact h n (by omega)
theorem feat_b {f : Nat → Int32} {m9 q k : Int32} (h : ∀ i, i < 12 → ∃ z : Nat, z ≤ 15 ∧ f i = nI z) (hq : ∃ z : Nat, z ≤ 15 ∧ q = nI z) : ∃ z : Nat, z < 200 ∧ featF f m9 q k = nI z := by
  unfold featF
  split
  · obtain ⟨z, hz, e⟩ := hq; exact ⟨z, by omega, e⟩
  · split
    · obtain ⟨z, hz, e⟩ := had_b (f := f) (m9 := m9) 12; exact ⟨z, by omega, e⟩
    · split
      · obtain ⟨z, hz, e⟩ := sel_b (m9 := m9) 12 h; exact ⟨z, by omega, e⟩
      · split
        · obtain ⟨z, hz, e⟩ := sum_b 12 h; exact ⟨z, by omega, e⟩
        · obtain ⟨z, hz, e⟩ := grt_b (m9 := m9) 12 h; exact ⟨z, by omega, e⟩
theorem sxF_85 {u w : St} {j k : Nat} : ∀ f i, (sxF u w j k f).1 85 i = (if k * 5 ≤ i ∧ i < k * 5 + f then ftM u (j / 16) (j % 16) (nI (i - k * 5)) else w.1 85 i) := by
  intro f
  induction f with
  | zero => intro i; rw [if_neg (show ¬ (k * 5 ≤ i ∧ i < k * 5 + 0) by omega)]; rfl
  | succ f ih =>
    intro i
    simp only [sxF]
    rw [sI_eq]
    by_cases e : i = k * 5 + f
    · rw [e, upd_at, if_pos (show k * 5 ≤ k * 5 + f ∧ k * 5 + f < k * 5 + (f + 1) by omega), show k * 5 + f - k * 5 = f by omega]
    · rw [upd_ne e, ih i]
      by_cases e2 : k * 5 ≤ i ∧ i < k * 5 + f
      · rw [if_pos e2, if_pos (show k * 5 ≤ i ∧ i < k * 5 + (f + 1) by omega)]
      · rw [if_neg e2, if_neg (show ¬ (k * 5 ≤ i ∧ i < k * 5 + (f + 1)) by omega)]
theorem live_eq {u u1 w : St} (hI : Inv u) (km : KM u u1) (hw : ∀ j, j ≠ 8 → (j < 38 ∨ 59 ≤ j) → w.1 j = u.1 j) {q d : Nat} (hq : q < 8) (hd : d < 16) : liveF w q d = 0 ↔ (u1.1 80 (q * 16 + d) < 0 ∨ u1.1 76 d = 0) := by
  have hj : q * 16 + d < 128 := by omega
  have e12 : w.1 12 (q * 16 + d) = u1.1 80 (q * 16 + d) := by rw [hw 12 (by decide) (by omega), km.1 80 (by decide)]; exact hI.t.grd _ hj
  have hg : -1 ≤ u1.1 80 (q * 16 + d) := by rw [km.1 80 (by decide)]; exact hI.t.gm _ hj
  have e9 : w.1 9 d = u1.1 76 d := by rw [hw 9 (by decide) (by omega), km.1 76 (by decide)]; exact hI.t.there d hd
  have hin : ¬ withinF (nI d) 15 = 0 := win_d hd
  unfold liveF holdsF
  rw [e12, nI_clamp (by omega), e9, if_neg hin]
  by_cases c1 : u1.1 80 (q * 16 + d) = -1
  · rw [if_pos c1]
    exact ⟨fun _ => Or.inl ((gi_lt hg).mpr c1), fun _ => rfl⟩
  · rw [if_neg c1]
    by_cases c2 : u1.1 76 d = 0
    · rw [if_pos c2, if_pos rfl]
      exact ⟨fun _ => Or.inr c2, fun _ => rfl⟩
    · rw [if_neg c2, if_neg (show ¬ (1 : Int32) = 0 by decide)]
      exact ⟨fun z => absurd z (by decide), fun z => z.elim (fun a => absurd ((gi_lt hg).mp a) c1) (fun a => absurd a c2)⟩
theorem ga_step {u u1 w v : St} (hI : Inv u) (hB : Bnd u) (km : KM u u1) (hw : ∀ j, j ≠ 8 → (j < 38 ∨ 59 ≤ j) → w.1 j = u.1 j) {q d : Nat} (hq : q < 8) (hd : d < 16) (hv : trM u1 (q * 16 + d) = v) (h : smR w v (lvN u1 (q * 16 + d))) : smR (gaS w q d) (trM u1 (q * 16 + d + 1)) (lvN u1 (q * 16 + d + 1)) := by
  have hle : lvN u1 128 ≤ 16 := (hI.m.keep km).lv
  have hlive := live_eq hI km hw hq hd
  have em : (q * 16 + d) % 16 = d := by omega
  have ed : (q * 16 + d) / 16 = q := by omega
  have hj : q * 16 + d < 128 := by omega
  have eT : trM u1 (q * 16 + d + 1) = (if u1.1 80 (q * 16 + d) < 0 then v else if u1.1 76 d = 0 then v else sF (sL (sxF u1 v (q * 16 + d) (lvN u1 (q * 16 + d)) 5) 87 (lvN u1 (q * 16 + d)) ((u1.1 80 (q * 16 + d)).toInt64 * 65536)) 12 (nI (lvN u1 (q * 16 + d) + 1))) := by
    show (if _ then _ else if _ then _ else _) = _
    rw [em, hv]
  have eL : lvN u1 (q * 16 + d + 1) = (if u1.1 80 (q * 16 + d) < 0 then lvN u1 (q * 16 + d) else if u1.1 76 d = 0 then lvN u1 (q * 16 + d) else lvN u1 (q * 16 + d) + 1) := by
    show (if _ then _ else if _ then _ else _) = _
    rw [em]
  by_cases c : liveF w q d = 0
  · have e1 : gaS w q d = w := if_pos c
    rw [e1, eT, eL]
    rcases hlive.mp c with z | z
    · rw [if_pos z, if_pos z]; exact h
    · by_cases z2 : u1.1 80 (q * 16 + d) < 0
      · rw [if_pos z2, if_pos z2]; exact h
      · rw [if_neg z2, if_neg z2, if_pos z, if_pos z]; exact h
  · have c1 : ¬ u1.1 80 (q * 16 + d) < 0 := fun z => c (hlive.mpr (Or.inl z))
    have c2 : ¬ u1.1 76 d = 0 := fun z => c (hlive.mpr (Or.inr z))
    have hlt : lvN u1 (q * 16 + d) < 16 := lvN_lt hle hj c1 (by rw [em]; exact c2)
    rw [eT, eL, if_neg c1, if_neg c1, if_neg c2, if_neg c2]
    obtain ⟨a1, a2, a3, a4, a5, a6⟩ := h
    clear eT eL hlive
    generalize lvN u1 (q * 16 + d) = k at a1 a2 a3 a4 a5 a6 hlt ⊢
    have e1 : gaS w q d = sF (sL (addF (measF w d (w.1 2 q)) k 5) 15 k (65536 * (w.1 12 (q * 16 + d)).toInt64)) 3 (nI (k + 1)) := by
      unfold gaS addS
      rw [if_neg c, a3, nI_clamp (by omega), if_pos hlt]
    rw [e1]
    obtain ⟨g1, g2, g3, -⟩ := addF_all (u := measF w d (w.1 2 q)) hlt (fun f hf => (a5 f hf).mv (fun i _ => by rw [meas_ne (by omega)]) (fun i hi => by rw [meas_ne (by omega)])) 5 (Nat.le_refl 5)
    have x1 : ∀ i f, (sF (sL (addF (measF w d (w.1 2 q)) k 5) 15 k (65536 * (w.1 12 (q * 16 + d)).toInt64)) 3 (nI (k + 1))).1 i f = (addF (measF w d (w.1 2 q)) k 5).1 i f := fun _ _ => rfl
    have x85 : ∀ i, (sF (sL (sxF u1 v (q * 16 + d) k 5) 87 k ((u1.1 80 (q * 16 + d)).toInt64 * 65536)) 12 (nI (k + 1))).1 85 i = (if k * 5 ≤ i ∧ i < k * 5 + 5 then ftM u1 q d (nI (i - k * 5)) else v.1 85 i) := fun i => by
      show (sxF u1 v (q * 16 + d) k 5).1 85 i = _
      rw [sxF_85, ed, em]
    have hrow : ∀ f, f < 5 → (addF (measF w d (w.1 2 q)) k 5).1 (38 + k) f = ftX u q d (nI f) := fun f hf => by
      rw [g2 f hf, meas_8 hf]
      unfold ftX
      rw [hw (22 + d) (by omega) (by omega), hw 2 (by decide) (by omega), hw 10 (by decide) (by omega)]
    have hft : ∀ f : Int32, ftM u1 q d f = ftX u q d f := fun f => by
      rw [ft_tie hI.t hq hd]
      unfold ftM
      rw [km.1 78 (by decide), km.1 79 (by decide), km.1 77 (by decide)]
    have hold : ∀ i f, i < k → (addF (measF w d (w.1 2 q)) k 5).1 (38 + i) f = w.1 (38 + i) f := fun i f hi => by rw [g1 i (by omega) (by omega), meas_ne (by omega)]
    have e12 : w.1 12 (q * 16 + d) = u1.1 80 (q * 16 + d) := by rw [hw 12 (by decide) (by omega), km.1 80 (by decide)]; exact hI.t.grd _ hj
    refine ⟨fun f hf i hi => ?_, fun i hi => ?_, sF_eq, sF_eq, fun f hf => (g3 f hf).mv (fun i _ => rfl) (fun i _ => rfl), fun f hf i hi => ?_⟩
    · rw [x1, x85]
      by_cases e : i = k
      · subst e
        rw [hrow f hf, if_pos (show i * 5 ≤ i * 5 + f ∧ i * 5 + f < i * 5 + 5 by omega), hft, show i * 5 + f - i * 5 = f by omega]
      · rw [hold i f (by omega), if_neg (show ¬ (k * 5 ≤ i * 5 + f ∧ i * 5 + f < k * 5 + 5) by omega)]
        exact a1 f hf i (by omega)
    · show (sL _ 15 k _).2.1 15 i = (sL _ 87 k _).2.1 87 i
      rw [sL_eq, sL_eq]
      by_cases e : i = k
      · rw [e, vp_at, vp_at, e12, Int64.mul_comm]
      · rw [vp_ne e, vp_ne e, addF_2, (sxF_keep 5).2]
        exact a2 i (by omega)
    · rw [x1]
      by_cases e : i = k
      · rw [e, hrow f hf]
        exact feat_b (hB.1 d hd) (hB.2 d hd)
      · rw [hold i f (by omega)]; exact a6 f hf i (by omega)
theorem smR_0 {w v : St} (h3 : w.2.2.1 3 = 0) (h12 : v.2.2.1 12 = 0) : smR w v 0 := ⟨fun _ _ i hi => absurd hi (by omega), fun i hi => absurd hi (by omega), h3, h12, fun _ _ => ⟨fun _ => 0, fun i hi => absurd hi (by omega), fun i j _ hj => absurd hj (by omega), fun _ _ _ _ _ => rfl⟩, fun _ _ i hi => absurd hi (by omega)⟩
theorem ga_row {u u1 : St} (hI : Inv u) (hB : Bnd u) (km : KM u u1) {q : Nat} (hq : q < 8) (h : smR (gaA (sF u 2 0) q) (trM u1 (q * 16)) (lvN u1 (q * 16))) : ∀ d, d ≤ 16 → smR (gaR (gaA (sF u 2 0) q) q d) (trM u1 (q * 16 + d)) (lvN u1 (q * 16 + d)) := by
  intro d
  induction d with
  | zero => intro _; exact h
  | succ d ih =>
    intro hd
    have hok := gaR_ok (sF u 2 0) q d hq (by omega)
    exact ga_step hI hB km (fun j h1 h2 => by rw [hok.2.1 j h1 h2]; rfl) hq (by omega) rfl (ih (by omega))
theorem ga_all {u u1 : St} (hI : Inv u) (hB : Bnd u) (km : KM u u1) : ∀ q, q ≤ 8 → smR (gaA (sF u 2 0) q) (trM u1 (q * 16)) (lvN u1 (q * 16)) := by
  intro q
  induction q with
  | zero => intro _; exact smR_0 sF_eq sF_eq
  | succ q ih =>
    intro hq
    have := ga_row hI hB km (by omega) (ih (by omega)) 16 (Nat.le_refl 16)
    rw [show (q + 1) * 16 = q * 16 + 16 by omega]
    exact this
/-- training leaves the same trees on both sides -/
theorem train_R {u u1 : St} (hI : Inv u) (hB : Bnd u) (km : KM u u1) {a b : Nat} {y : Int32} (ha : a ≤ 4) (hb : b ≤ 2) (hy : 1 ≤ y) : tnN u a = trNN u1 a ∧ ∀ t, t < tnN u a → treeR (tnS u a b y) (trST u1 a (nI b) y) t := by
  have hle : lvN u1 128 ≤ 16 := (hI.m.keep km).lv
  have h := ga_all hI hB km 8 (Nat.le_refl 8)
  have h : smR (gaA (sF u 2 0) 8) (trM u1 128) (lvN u1 128) := h
  have h3 : (gaA (sF u 2 0) 8).2.2.1 3 = nI (lvN u1 128) := h.2.2.1
  have hn : tnN u a = trNN u1 a := by
    unfold tnN trNN
    rw [h3]
    by_cases e : lvN u1 128 = 0
    · rw [if_pos e, e, if_pos (by decide)]
    · rw [if_neg e, if_neg (fun z => e (by have := (nI_leI (a := lvN u1 128) (b := 0) (by omega) (by omega)).mp z; omega))]
  refine ⟨hn, fun t ht => ?_⟩
  unfold tnS trST
  rw [← hn, h3, nI_clamp (by omega)]
  have hk0 : 0 < lvN u1 128 := by
    rcases Nat.eq_zero_or_pos (lvN u1 128) with z | z
    · exfalso
      rw [hn] at ht
      unfold trNN at ht
      rw [if_pos z] at ht
      omega
    · exact z
  have hn4 := tn_le u ha
  clear hn h3
  generalize tnN u a = n at ht hn4 ⊢
  generalize lvN u1 128 = k at h hle hk0 ⊢
  generalize gaA (sF u 2 0) 8 = w at h ⊢
  generalize trM u1 128 = v at h ⊢
  have h2 : smR w (sF v 11 (nI n)) k := h.mv (fun _ _ _ => rfl) rfl rfl rfl rfl (sF_ne (by decide)) hle
  exact (gt_R (a := b) (y := y) hle hk0 hb hy h2 n hn4).2 t ht
