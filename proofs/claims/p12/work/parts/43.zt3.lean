/-! the reference's search over all thresholds, in the same words; both searches find the same split -/
theorem sG_eq {u : St} {k : Nat} {x : Int64} : (sG u k x).2.2.2 k = x := if_pos rfl
theorem LCf_s {nd ft : Nat → Int32} {x t : Int32} {k : Nat} : LCf nd ft x (k + 1) t = LCf nd ft x k t + (if nd k = x then (if ft k ≤ t then 1 else 0) else 0) := rfl
theorem HCf_s {nd ft : Nat → Int32} {x t : Int32} {k : Nat} : HCf nd ft x (k + 1) t = HCf nd ft x k t + (if nd k = x then (if ft k ≤ t then 0 else 1) else 0) := rfl
theorem LSf_s {nd ft : Nat → Int32} {rs : Nat → Int64} {x t : Int32} {k : Nat} : LSf nd ft rs x (k + 1) t = LSf nd ft rs x k t + (if nd k = x then (if ft k ≤ t then rs k else 0) else 0) := rfl
theorem HSf_s {nd ft : Nat → Int32} {rs : Nat → Int64} {x t : Int32} {k : Nat} : HSf nd ft rs x (k + 1) t = HSf nd ft rs x k t + (if nd k = x then (if ft k ≤ t then 0 else rs k) else 0) := rfl
theorem NSf_s {nd : Nat → Int32} {rs : Nat → Int64} {x : Int32} {k : Nat} : NSf nd rs x (k + 1) = NSf nd rs x k + (if nd k = x then rs k else 0) := rfl
theorem NCf_s {nd : Nat → Int32} {x : Int32} {k : Nat} : NCf nd x (k + 1) = NCf nd x k + (if nd k = x then 1 else 0) := rfl
theorem m_low (u : St) (x : Int32) (f : Nat) (t : Int32) : ∀ k, psF u x f t 0 k = LSf (u.1 86) (fun j => u.1 85 (j * 5 + f)) (u.2.1 87) x k t ∧ pmN u x f t 0 k = LCf (u.1 86) (fun j => u.1 85 (j * 5 + f)) x k t ∧ szN u x f t 0 k = LCf (u.1 86) (fun j => u.1 85 (j * 5 + f)) x k t := by
  intro k
  induction k with
  | zero => exact ⟨rfl, rfl, rfl⟩
  | succ k ih =>
    obtain ⟨i1, i2, i3⟩ := ih
    simp only [psF, pmN, szN]
    rw [i1, i2, i3, LSf_s, LCf_s]
    by_cases a : u.1 86 k = x
    · by_cases b : u.1 85 (k * 5 + f) ≤ t
      · simp [a, b]
      · simp [a, b]
    · simp [a]
theorem m_high (u : St) (x : Int32) (f : Nat) (t : Int32) : ∀ k, psF u x f t 1 k = HSf (u.1 86) (fun j => u.1 85 (j * 5 + f)) (u.2.1 87) x k t ∧ pmN u x f t 1 k = HCf (u.1 86) (fun j => u.1 85 (j * 5 + f)) x k t ∧ szN u x f t 1 k = HCf (u.1 86) (fun j => u.1 85 (j * 5 + f)) x k t := by
  intro k
  induction k with
  | zero => exact ⟨rfl, rfl, rfl⟩
  | succ k ih =>
    obtain ⟨i1, i2, i3⟩ := ih
    simp only [psF, pmN, szN]
    rw [i1, i2, i3, HSf_s, HCf_s]
    by_cases a : u.1 86 k = x
    · by_cases b : u.1 85 (k * 5 + f) ≤ t
      · simp [a, b]
      · simp [a, b]
    · simp [a]
theorem m_both (u : St) (x : Int32) (f : Nat) (t : Int32) : ∀ k, psF u x f t 2 k = NSf (u.1 86) (u.2.1 87) x k ∧ pmN u x f t 2 k = NCf (u.1 86) x k := by
  intro k
  induction k with
  | zero => exact ⟨rfl, rfl⟩
  | succ k ih =>
    obtain ⟨i1, i2⟩ := ih
    simp only [psF, pmN]
    rw [i1, i2, NSf_s, NCf_s]
    by_cases a : u.1 86 k = x
    · rw [if_pos a, if_pos a, if_pos a, if_pos a, if_pos (show (2 : Int32) ≤ 2 by decide), if_pos (show (2 : Int32) ≤ 2 by decide)]
      exact ⟨rfl, rfl⟩
    · rw [if_neg a, if_neg a, if_neg a, if_neg a]
      exact ⟨(Int64.add_zero _).symm, rfl⟩
theorem am_eq (u : St) (x : Int32) (f : Nat) (t : Int32) : ∀ k, amF u x f t k = amD (u.1 86) (fun j => u.1 85 (j * 5 + f)) x t k := by
  intro k
  induction k with
  | zero => rfl
  | succ k ih => simp only [amF, amD]; rw [ih]
theorem part_w {u : St} {x : Int32} {f : Nat} {t z : Int32} {k : Nat} (h : ¬ pmN u x f t z k = 0) : partF u x f t z k = worthF (psF u x f t z k) (pmN u x f t z k) := if_neg h
theorem y_pos {y : Int32} (hy : 1 ≤ y) {n : Nat} (hn : n ≤ 16) (h : y ≤ nI n) : ¬ n = 0 := by
  intro e
  have a1 := Int32.le_iff_toInt_le.mp hy
  have a2 := Int32.le_iff_toInt_le.mp h
  rw [show (1 : Int32).toInt = 1 from rfl] at a1
  rw [nI_toInt (by omega)] at a2
  omega
theorem st_3 {b : St} {x y : Int32} {f k t : Nat} (hk : k ≤ 16) (hy : 1 ≤ y) : tm3 (stM b x y f k t) = (if amD (b.1 86) (fun j => b.1 85 (j * 5 + f)) x (nI t) k = 0 then tm3 b else stepB y (LCf (b.1 86) (fun j => b.1 85 (j * 5 + f)) x k (nI t)) (HCf (b.1 86) (fun j => b.1 85 (j * 5 + f)) x k (nI t)) (gainF (b.1 86) (fun j => b.1 85 (j * 5 + f)) (b.2.1 87) x k (nI t)) (nI f) (nI t) (tm3 b)) := by
  obtain ⟨l1, l2, l3⟩ := m_low b x f (nI t) k
  obtain ⟨h1, h2, h3⟩ := m_high b x f (nI t) k
  have q1 := LC_le (nd := b.1 86) (ft := fun j => b.1 85 (j * 5 + f)) (x := x) (t := nI t) k
  have q2 := HC_le (nd := b.1 86) (ft := fun j => b.1 85 (j * 5 + f)) (x := x) (t := nI t) k
  unfold stM stepB gainF
  rw [am_eq, l3, h3]
  by_cases c0 : amD (b.1 86) (fun j => b.1 85 (j * 5 + f)) x (nI t) k = 0
  · rw [if_pos c0, if_pos c0]
  · rw [if_neg c0, if_neg c0]
    by_cases c1 : nI (LCf (b.1 86) (fun j => b.1 85 (j * 5 + f)) x k (nI t)) < y
    · rw [if_pos c1, if_pos c1]
    · rw [if_neg c1, if_neg c1]
      by_cases c2 : y ≤ nI (HCf (b.1 86) (fun j => b.1 85 (j * 5 + f)) x k (nI t))
      · rw [if_pos c2, if_pos c2]
        have p1 := y_pos hy (by omega) (le_nlt c1)
        have p2 := y_pos hy (by omega) c2
        rw [part_w (by rw [l2]; exact p1), part_w (by rw [h2]; exact p2), l1, l2, h1, h2]
        generalize worthF (LSf (b.1 86) (fun j => b.1 85 (j * 5 + f)) (b.2.1 87) x k (nI t)) (LCf (b.1 86) (fun j => b.1 85 (j * 5 + f)) x k (nI t)) + worthF (HSf (b.1 86) (fun j => b.1 85 (j * 5 + f)) (b.2.1 87) x k (nI t)) (HCf (b.1 86) (fun j => b.1 85 (j * 5 + f)) x k (nI t)) = g9
        have e0 : (tm3 b).1 = b.2.2.2 2 := rfl
        rw [e0]
        by_cases c3 : 0 < lg_cmp g9 (b.2.2.2 2)
        · rw [if_pos c3, if_pos c3]; rfl
        · rw [if_neg c3, if_neg c3]
      · rw [if_neg c2, if_neg c2]
theorem tM_3 {a : St} {x y : Int32} {f k : Nat} (hk : k ≤ 16) (hy : 1 ≤ y) : ∀ T, tm3 (tMF a x y f k T) = foldB (a.1 86) (fun j => a.1 85 (j * 5 + f)) (a.2.1 87) x y k f (tm3 a) T := by
  intro T
  induction T with
  | zero => rfl
  | succ T ih =>
    simp only [tMF, foldB]
    rw [st_3 hk hy, (tMF_1 T).1, (tMF_1 T).2, ih]
def foldA (nd : Nat → Int32) (fc : Nat → Nat → Int32) (rs : Nat → Int64) (x y : Int32) (k : Nat) (b : B3) : Nat → B3
  | 0 => b
  | f + 1 => foldB nd (fc f) rs x y k f (foldA nd fc rs x y k b f) 200
theorem fM_3 {v : St} {x y : Int32} {k : Nat} (hk : k ≤ 16) (hy : 1 ≤ y) : ∀ f, tm3 (fMF v x y k f) = foldA (v.1 86) (fun f j => v.1 85 (j * 5 + f)) (v.2.1 87) x y k (tm3 (fMF v x y k 0)) f := by
  intro f
  induction f with
  | zero => rfl
  | succ f ih =>
    show tm3 (tMF (fMF v x y k f) x y f k 200) = foldB _ _ _ _ _ _ _ (foldA _ _ _ _ _ _ _ f) 200
    rw [tM_3 hk hy, ih, fMF_1.1, fMF_1.2]
theorem fs_3 {w : St} {x : Int32} {k : Nat} (hk : k ≤ 16) (ho : ∀ f, f < 5 → ordOK w f k) (hft : ∀ f, f < 5 → ∀ i, i < k → ∃ v : Nat, v < 200 ∧ w.1 (38 + i) f = nI v) (hy : 1 ≤ w.2.2.1 4) (hN : w.2.2.1 5 = nI (NCf (w.1 17) x k)) (hS : w.2.2.2 0 = NSf (w.1 17) (w.2.1 15) x k) :
    ∀ f, f ≤ 5 → tr3 (fsF w x k f) = foldA (w.1 17) (fun f j => w.1 (38 + j) f) (w.2.1 15) x (w.2.2.1 4) k (tr3 (fsF w x k 0)) f := by
  intro f
  induction f with
  | zero => intro _; rfl
  | succ f ih =>
    intro hf
    have e1 : (fsF w x k f).1 = w.1 := fsF_1
    have e2 : (fsF w x k f).2.1 = w.2.1 := fsF_21
    have e4 : (fsF w x k f).2.2.1 4 = w.2.2.1 4 := fsF_F (by decide)
    have e5 : (fsF w x k f).2.2.1 5 = w.2.2.1 5 := fsF_F (by decide)
    have e0 : (fsF w x k f).2.2.2 0 = w.2.2.2 0 := fsF_G (by decide)
    have := wt_all (u := fsF w x k f) (x := x) (f := f) (k := k) hk ((ho f (by omega)).mv (fun i _ => by rw [e1]) (fun i _ => by rw [e1])) (fun i hi => by rw [e1]; exact hft f (by omega) i hi) (by rw [e4]; exact hy) (by rw [e5, e1]; exact hN) (by rw [e0, e1, e2]; exact hS)
    show tr3 (wtF (fsF w x k f) x f k).2.2.2 = foldB _ _ _ _ _ _ _ (foldA _ _ _ _ _ _ _ f) 200
    rw [this, e1, e2, e4, ih (by omega)]
/-- data that agree on the samples give the same -/
theorem amD_c {nd nd2 ft ft2 : Nat → Int32} {x t : Int32} : ∀ k, (∀ i, i < k → nd2 i = nd i) → (∀ i, i < k → ft2 i = ft i) → amD nd2 ft2 x t k = amD nd ft x t k := by
  intro k
  induction k with
  | zero => intro _ _; rfl
  | succ k ih => intro h1 h2; simp only [amD]; rw [h1 k (by omega), h2 k (by omega), ih (fun i hi => h1 i (by omega)) (fun i hi => h2 i (by omega))]
theorem LC_c {nd nd2 ft ft2 : Nat → Int32} {x t : Int32} {k : Nat} (h1 : ∀ i, i < k → nd2 i = nd i) (h2 : ∀ i, i < k → ft2 i = ft i) : LCf nd2 ft2 x k t = LCf nd ft x k t := sumG_c k (fun i hi => by rw [h1 i hi, h2 i hi])
theorem HC_c {nd nd2 ft ft2 : Nat → Int32} {x t : Int32} {k : Nat} (h1 : ∀ i, i < k → nd2 i = nd i) (h2 : ∀ i, i < k → ft2 i = ft i) : HCf nd2 ft2 x k t = HCf nd ft x k t := sumG_c k (fun i hi => by rw [h1 i hi, h2 i hi])
theorem LS_c {nd nd2 ft ft2 : Nat → Int32} {rs rs2 : Nat → Int64} {x t : Int32} {k : Nat} (h1 : ∀ i, i < k → nd2 i = nd i) (h2 : ∀ i, i < k → ft2 i = ft i) (h3 : ∀ i, i < k → rs2 i = rs i) : LSf nd2 ft2 rs2 x k t = LSf nd ft rs x k t := sumG_c k (fun i hi => by rw [h1 i hi, h2 i hi, h3 i hi])
theorem HS_c {nd nd2 ft ft2 : Nat → Int32} {rs rs2 : Nat → Int64} {x t : Int32} {k : Nat} (h1 : ∀ i, i < k → nd2 i = nd i) (h2 : ∀ i, i < k → ft2 i = ft i) (h3 : ∀ i, i < k → rs2 i = rs i) : HSf nd2 ft2 rs2 x k t = HSf nd ft rs x k t := sumG_c k (fun i hi => by rw [h1 i hi, h2 i hi, h3 i hi])
theorem NS_c {nd nd2 : Nat → Int32} {rs rs2 : Nat → Int64} {x : Int32} {k : Nat} (h1 : ∀ i, i < k → nd2 i = nd i) (h3 : ∀ i, i < k → rs2 i = rs i) : NSf nd2 rs2 x k = NSf nd rs x k := sumG_c k (fun i hi => by rw [h1 i hi, h3 i hi])
theorem NC_c {nd nd2 : Nat → Int32} {x : Int32} {k : Nat} (h1 : ∀ i, i < k → nd2 i = nd i) : NCf nd2 x k = NCf nd x k := sumG_c k (fun i hi => by rw [h1 i hi])
theorem fold_c {nd nd2 ft ft2 : Nat → Int32} {rs rs2 : Nat → Int64} {x y : Int32} {k f : Nat} {b : B3} (h1 : ∀ i, i < k → nd2 i = nd i) (h2 : ∀ i, i < k → ft2 i = ft i) (h3 : ∀ i, i < k → rs2 i = rs i) : ∀ T, foldB nd2 ft2 rs2 x y k f b T = foldB nd ft rs x y k f b T := by
  intro T
  induction T with
  | zero => rfl
  | succ T ih =>
    simp only [foldB]
    unfold gainF
    rw [amD_c k h1 h2, LC_c h1 h2, HC_c h1 h2, LS_c h1 h2 h3, HS_c h1 h2 h3, ih]
theorem foldA_c {nd nd2 : Nat → Int32} {fc fc2 : Nat → Nat → Int32} {rs rs2 : Nat → Int64} {x y : Int32} {k : Nat} {b : B3} (h1 : ∀ i, i < k → nd2 i = nd i) (h2 : ∀ f, f < 5 → ∀ i, i < k → fc2 f i = fc f i) (h3 : ∀ i, i < k → rs2 i = rs i) : ∀ f, f ≤ 5 → foldA nd2 fc2 rs2 x y k b f = foldA nd fc rs x y k b f := by
  intro f
  induction f with
  | zero => intro _; rfl
  | succ f ih =>
    intro hf
    simp only [foldA]
    rw [fold_c h1 (h2 f (by omega)) h3, ih (by omega)]
/-- the same best, but for the threshold where there is no split -/
def Rb (b b2 : B3) : Prop := b.1 = b2.1 ∧ b.2.1 = b2.2.1 ∧ (b.2.1 = -1 ∨ b.2.2 = b2.2.2)
theorem step_R {y : Int32} {lc hc : Nat} {g : Int64} {f t : Int32} {b b2 : B3} (h : Rb b b2) : Rb (stepB y lc hc g f t b) (stepB y lc hc g f t b2) := by
  unfold stepB
  rw [h.1]
  split
  · exact h
  · split
    · split
      · exact ⟨rfl, rfl, Or.inr rfl⟩
      · exact h
    · exact h
theorem fold_R {nd ft : Nat → Int32} {rs : Nat → Int64} {x y : Int32} {k f : Nat} {b b2 : B3} (h : Rb b b2) : ∀ T, Rb (foldB nd ft rs x y k f b T) (foldB nd ft rs x y k f b2 T) := by
  intro T
  induction T with
  | zero => exact h
  | succ T ih =>
    simp only [foldB]
    split
    · exact ih
    · exact step_R ih
theorem foldA_R {nd : Nat → Int32} {fc : Nat → Nat → Int32} {rs : Nat → Int64} {x y : Int32} {k : Nat} {b b2 : B3} (h : Rb b b2) : ∀ f, Rb (foldA nd fc rs x y k b f) (foldA nd fc rs x y k b2 f) := by
  intro f
  induction f with
  | zero => exact h
  | succ f ih => exact fold_R ih 200
/-- a split that was taken has something on both sides -/
def Vb (nd : Nat → Int32) (fc : Nat → Nat → Int32) (x : Int32) (k : Nat) (b : B3) : Prop := b.2.1 = -1 ∨ ∃ f t : Nat, f < 5 ∧ t < 200 ∧ b.2.1 = nI f ∧ b.2.2 = nI t ∧ ¬ LCf nd (fc f) x k (nI t) = 0 ∧ ¬ HCf nd (fc f) x k (nI t) = 0
theorem fold_V {nd : Nat → Int32} {fc : Nat → Nat → Int32} {rs : Nat → Int64} {x y : Int32} {k f : Nat} {b : B3} (hk : k ≤ 16) (hy : 1 ≤ y) (hf : f < 5) (h : Vb nd fc x k b) : ∀ T, T ≤ 200 → Vb nd fc x k (foldB nd (fc f) rs x y k f b T) := by
  intro T
  induction T with
  | zero => intro _; exact h
  | succ T ih =>
    intro hT
    simp only [foldB]
    split
    · exact ih (by omega)
    · unfold stepB
      split
      · exact ih (by omega)
      · rename_i c1
        split
        · rename_i c2
          split
          · have q1 := LC_le (nd := nd) (ft := fc f) (x := x) (t := nI T) k
            have q2 := HC_le (nd := nd) (ft := fc f) (x := x) (t := nI T) k
            exact Or.inr ⟨f, T, hf, by omega, rfl, rfl, y_pos hy (by omega) (le_nlt c1), y_pos hy (by omega) c2⟩
          · exact ih (by omega)
        · exact ih (by omega)
theorem foldA_V {nd : Nat → Int32} {fc : Nat → Nat → Int32} {rs : Nat → Int64} {x y : Int32} {k : Nat} {b : B3} (hk : k ≤ 16) (hy : 1 ≤ y) (h : b.2.1 = -1) : ∀ f, f ≤ 5 → Vb nd fc x k (foldA nd fc rs x y k b f) := by
  intro f
  induction f with
  | zero => intro _; exact Or.inl h
  | succ f ih => intro hf; exact fold_V hk hy (by omega) (ih (by omega)) 200 (Nat.le_refl 200)
/-- the two searches at a node with samples -/
theorem search_eq {w v : St} {n k : Nat} (hk : k ≤ 16) (ho : ∀ f, f < 5 → ordOK w f k) (hft : ∀ f, f < 5 → ∀ i, i < k → ∃ z : Nat, z < 200 ∧ w.1 (38 + i) f = nI z) (hy : 1 ≤ w.2.2.1 4)
    (h1 : ∀ i, i < k → w.1 17 i = v.1 86 i) (h2 : ∀ f, f < 5 → ∀ i, i < k → w.1 (38 + i) f = v.1 85 (i * 5 + f)) (h3 : ∀ i, i < k → w.2.1 15 i = v.2.1 87 i) (hn : ¬ NCf (w.1 17) (nI n) k = 0) :
    Rb (tr3 (fsF (suF w n k) (nI n) k 5)) (tm3 (fMF v (nI n) (w.2.2.1 4) k 5)) ∧ Vb (w.1 17) (fun f j => w.1 (38 + j) f) (nI n) k (tr3 (fsF (suF w n k) (nI n) k 5)) := by
  have eS : nsF (w.2.1 15) (w.1 17) (nI n) k = NSf (w.1 17) (w.2.1 15) (nI n) k := by
    have : ∀ j, nsF (w.2.1 15) (w.1 17) (nI n) j = NSf (w.1 17) (w.2.1 15) (nI n) j := by
      intro j
      induction j with
      | zero => rfl
      | succ j ih =>
        simp only [nsF]
        rw [NSf_s, ih]
        by_cases a : w.1 17 j = nI n
        · rw [if_pos a, if_pos a]
        · rw [if_neg a, if_neg a, Int64.add_zero]
    exact this k
  have eC : ncF (w.1 17) (nI n) k = nI (NCf (w.1 17) (nI n) k) := by
    have : ∀ j, ncF (w.1 17) (nI n) j = nI (NCf (w.1 17) (nI n) j) := by
      intro j
      induction j with
      | zero => rfl
      | succ j ih =>
        simp only [ncF]
        rw [NCf_s, ih]
        by_cases a : w.1 17 j = nI n
        · rw [if_pos a, if_pos a]; exact nI_1 _
        · rw [if_neg a, if_neg a]; rfl
    exact this k
  have f4 : (suF w n k).2.2.1 4 = w.2.2.1 4 := suF_F (by decide)
  have f5 : (suF w n k).2.2.1 5 = nI (NCf (w.1 17) (nI n) k) := by rw [← eC]; exact sF_eq
  have g0 : (suF w n k).2.2.2 0 = NSf (w.1 17) (w.2.1 15) (nI n) k := by rw [← eS]; exact sG_eq (u := w) (k := 0) (x := nsF (w.2.1 15) (w.1 17) (nI n) k)
  have X := fs_3 (w := suF w n k) (x := nI n) hk (fun f hf => (ho f hf).mv (fun _ _ => rfl) (fun _ _ => rfl)) hft (by rw [f4]; exact hy) f5 g0 5 (Nat.le_refl 5)
  have M := fM_3 (v := v) (x := nI n) (y := w.2.2.1 4) hk hy 5
  have a1 : (suF w n k).1 = w.1 := rfl
  have a2 : (suF w n k).2.1 = w.2.1 := rfl
  rw [a1, a2, f4] at X
  have i0 : Rb (tr3 (fsF (suF w n k) (nI n) k 0)) (tm3 (fMF v (nI n) (w.2.2.1 4) k 0)) := by
    refine ⟨?_, rfl, Or.inl rfl⟩
    show worthI ((suF w n k).2.2.2 0) ((suF w n k).2.2.1 5) = partF (sF v 14 (-1)) (nI n) 0 0 2 k
    have b := m_both (sF v 14 (-1)) (nI n) 0 0 k
    have c1 : NCf (v.1 86) (nI n) k = NCf (w.1 17) (nI n) k := NC_c (fun i hi => (h1 i hi).symm)
    have c2 : NSf (v.1 86) (v.2.1 87) (nI n) k = NSf (w.1 17) (w.2.1 15) (nI n) k := NS_c (fun i hi => (h1 i hi).symm) (fun i hi => (h3 i hi).symm)
    have b1 : psF (sF v 14 (-1)) (nI n) 0 0 2 k = NSf (w.1 17) (w.2.1 15) (nI n) k := b.1.trans c2
    have b2 : pmN (sF v 14 (-1)) (nI n) 0 0 2 k = NCf (w.1 17) (nI n) k := b.2.trans c1
    rw [part_w (by rw [b2]; exact hn), b1, b2, f5, g0, worthI_n (by have := NC_le (nd := w.1 17) (x := nI n) k; omega)]
  rw [X, M, foldA_c (nd := w.1 17) (fc := fun f j => w.1 (38 + j) f) (rs := w.2.1 15) (fun i hi => (h1 i hi).symm) (fun f hf i hi => (h2 f hf i hi).symm) (fun i hi => (h3 i hi).symm) 5 (Nat.le_refl 5)]
  exact ⟨foldA_R i0 5, foldA_V hk hy rfl 5 (Nat.le_refl 5)⟩
