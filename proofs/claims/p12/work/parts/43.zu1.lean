/-! insertion by falling key: each one's place is the number of those that come before it -/
def rkN (fd : Nat → Int32) (key : Nat → Int64) (s9 : Nat) : Nat → Nat
  | 0 => 0
  | o + 1 => if fd o = 0 then rkN fd key s9 o else if key s9 < key o then rkN fd key s9 o + 1 else if key o = key s9 then (if o < s9 then rkN fd key s9 o + 1 else rkN fd key s9 o) else rkN fd key s9 o
def cfN (fd : Nat → Int32) : Nat → Nat
  | 0 => 0
  | o + 1 => if fd o = 0 then cfN fd o else cfN fd o + 1
theorem cf_le (fd : Nat → Int32) : ∀ n, cfN fd n ≤ n := by
  intro n
  induction n with
  | zero => exact Nat.le_refl 0
  | succ n ih => simp only [cfN]; split <;> omega
def bfr (key : Nat → Int64) (a b : Nat) : Prop := key b < key a ∨ (key a = key b ∧ a < b)
def b01 (key : Nat → Int64) (s9 o : Nat) : Nat := if key s9 < key o then 1 else if key o = key s9 then (if o < s9 then 1 else 0) else 0
theorem b01_1 {key : Nat → Int64} {a b : Nat} (h : bfr key a b) : b01 key b a = 1 := by
  unfold b01
  rcases h with z | z
  · rw [if_pos z]
  · split
    · rfl
    · rw [if_pos z.1, if_pos z.2]
theorem b01_0 {key : Nat → Int64} {a b : Nat} (h : bfr key b a ∨ a = b) : b01 key b a = 0 := by
  unfold b01
  rcases h with z | rfl
  · rcases z with z | z
    · rw [if_neg (fun q => by rw [Int64.lt_iff_toInt_lt] at q z; omega), if_neg (fun q => by rw [q] at z; rw [Int64.lt_iff_toInt_lt] at z; omega)]
    · rw [if_neg (fun q => by rw [z.1, Int64.lt_iff_toInt_lt] at q; omega), if_pos z.1.symm, if_neg (by omega)]
  · rw [if_neg (fun q => by rw [Int64.lt_iff_toInt_lt] at q; omega), if_pos rfl, if_neg (by omega)]
theorem rk_sum {fd : Nat → Int32} {key : Nat → Int64} {s9 : Nat} : ∀ n, rkN fd key s9 n = sumG Nat.add 0 (fun o => if fd o = 0 then 0 else b01 key s9 o) n := by
  intro n
  induction n with
  | zero => rfl
  | succ n ih =>
    show _ = sumG Nat.add 0 (fun o => if fd o = 0 then 0 else b01 key s9 o) n + (if fd n = 0 then 0 else b01 key s9 n)
    simp only [rkN]
    rw [ih]
    unfold b01
    repeat' split
    all_goals rfl
def RKs (w : St) (kk n : Nat) (fd dd : Nat → Int32) (key : Nat → Int64) (o9 : Nat → Nat) : Prop := w.2.2.1 (kk + 2) = nI (cfN fd n) ∧ (∀ i, i < cfN fd n → o9 i < n ∧ ¬ fd (o9 i) = 0 ∧ w.1 (2 * kk + 6) i = dd (o9 i) ∧ w.2.1 (2 * kk + 7) i = key (o9 i)) ∧ (∀ i j, i < j → j < cfN fd n → bfr key (o9 i) (o9 j)) ∧ (∀ g : Nat → Nat, sumG Nat.add 0 (fun i => g (o9 i)) (cfN fd n) = sumG Nat.add 0 (fun i => if fd i = 0 then 0 else g i) n)
def RK (w : St) (kk n : Nat) (fd dd : Nat → Int32) (key : Nat → Int64) : Prop := ∃ o9 : Nat → Nat, RKs w kk n fd dd key o9
theorem RK.mv {w w2 : St} {kk n : Nat} {fd dd : Nat → Int32} {key : Nat → Int64} (h : RK w kk n fd dd key) (e1 : w2.2.2.1 (kk + 2) = w.2.2.1 (kk + 2)) (e2 : w2.1 (2 * kk + 6) = w.1 (2 * kk + 6)) (e3 : w2.2.1 (2 * kk + 7) = w.2.1 (2 * kk + 7)) : RK w2 kk n fd dd key := by
  obtain ⟨o9, h1, h2, h3, h4⟩ := h
  exact ⟨o9, by rw [e1]; exact h1, fun i hi => by rw [e2, e3]; exact h2 i hi, h3, h4⟩
theorem RK_0 {w : St} {kk : Nat} {fd dd : Nat → Int32} {key : Nat → Int64} (h : w.2.2.1 (kk + 2) = 0) : RK w kk 0 fd dd key := ⟨fun _ => 0, h, fun i hi => absurd hi (Nat.not_lt_zero i), fun i j _ hj => absurd hj (Nat.not_lt_zero j), fun _ => rfl⟩
theorem RK_skip {w : St} {kk n : Nat} {fd dd : Nat → Int32} {key : Nat → Int64} (hf : fd n = 0) (h : RK w kk n fd dd key) : RK w kk (n + 1) fd dd key := by
  obtain ⟨o9, h1, h2, h3, h4⟩ := h
  have e : cfN fd (n + 1) = cfN fd n := by simp only [cfN]; rw [if_pos hf]
  refine ⟨o9, by rw [e]; exact h1, fun i hi => ?_, fun i j hij hj => h3 i j hij (by rw [e] at hj; exact hj), fun g => ?_⟩
  · rw [e] at hi
    have := h2 i hi
    exact ⟨by omega, this.2⟩
  · rw [e, h4 g]
    show _ = sumG Nat.add 0 (fun i => if fd i = 0 then 0 else g i) n + (if fd n = 0 then 0 else g n)
    rw [if_pos hf]
    rfl
theorem shift_row {kk : Nat} {x : Int64} : ∀ (i : Nat) (w : St), (shiftF w kk x i).2 ≤ i ∧ (∀ j, j < (shiftF w kk x i).2 → (shiftF w kk x i).1.1 (2 * kk + 6) j = w.1 (2 * kk + 6) j ∧ (shiftF w kk x i).1.2.1 (2 * kk + 7) j = w.2.1 (2 * kk + 7) j) ∧ (∀ j, (shiftF w kk x i).2 < j → j ≤ i → (shiftF w kk x i).1.1 (2 * kk + 6) j = w.1 (2 * kk + 6) (j - 1) ∧ (shiftF w kk x i).1.2.1 (2 * kk + 7) j = w.2.1 (2 * kk + 7) (j - 1)) ∧ (∀ j, i < j → (shiftF w kk x i).1.1 (2 * kk + 6) j = w.1 (2 * kk + 6) j ∧ (shiftF w kk x i).1.2.1 (2 * kk + 7) j = w.2.1 (2 * kk + 7) j) ∧
    (∀ j, (shiftF w kk x i).2 ≤ j → j < i → w.2.1 (2 * kk + 7) j < x) ∧ ((shiftF w kk x i).2 = 0 ∨ ¬ w.2.1 (2 * kk + 7) ((shiftF w kk x i).2 - 1) < x) := by
  intro i
  induction i with
  | zero => intro w; exact ⟨Nat.le_refl 0, fun _ _ => ⟨rfl, rfl⟩, fun j h1 h2 => absurd h1 (by show ¬ 0 < j; omega), fun _ _ => ⟨rfl, rfl⟩, fun j _ h2 => absurd h2 (by omega), Or.inl rfl⟩
  | succ i ih =>
    intro w
    by_cases c : w.2.1 (2 * kk + 7) i < x
    · rw [shiftF_y c]
      have hv : ∀ j, j ≠ i + 1 → (sI (sL w (2 * kk + 7) (i + 1) (w.2.1 (2 * kk + 7) i)) (2 * kk + 6) (i + 1) (w.1 (2 * kk + 6) i)).1 (2 * kk + 6) j = w.1 (2 * kk + 6) j := fun j hj => by rw [sI_eq, upd_ne hj]; rfl
      have hl : ∀ j, j ≠ i + 1 → (sI (sL w (2 * kk + 7) (i + 1) (w.2.1 (2 * kk + 7) i)) (2 * kk + 6) (i + 1) (w.1 (2 * kk + 6) i)).2.1 (2 * kk + 7) j = w.2.1 (2 * kk + 7) j := fun j hj => by
        show (sL w (2 * kk + 7) (i + 1) (w.2.1 (2 * kk + 7) i)).2.1 (2 * kk + 7) j = _
        rw [sL_eq, vp_ne hj]
      have hv1 : (sI (sL w (2 * kk + 7) (i + 1) (w.2.1 (2 * kk + 7) i)) (2 * kk + 6) (i + 1) (w.1 (2 * kk + 6) i)).1 (2 * kk + 6) (i + 1) = w.1 (2 * kk + 6) i := by rw [sI_eq, upd_at]
      have hl1 : (sI (sL w (2 * kk + 7) (i + 1) (w.2.1 (2 * kk + 7) i)) (2 * kk + 6) (i + 1) (w.1 (2 * kk + 6) i)).2.1 (2 * kk + 7) (i + 1) = w.2.1 (2 * kk + 7) i := by
        show (sL w (2 * kk + 7) (i + 1) (w.2.1 (2 * kk + 7) i)).2.1 (2 * kk + 7) (i + 1) = _
        rw [sL_eq, vp_at]
      obtain ⟨g1, g2, g3, g4, g5, g6⟩ := ih (sI (sL w (2 * kk + 7) (i + 1) (w.2.1 (2 * kk + 7) i)) (2 * kk + 6) (i + 1) (w.1 (2 * kk + 6) i))
      generalize sI (sL w (2 * kk + 7) (i + 1) (w.2.1 (2 * kk + 7) i)) (2 * kk + 6) (i + 1) (w.1 (2 * kk + 6) i) = y9 at hv hl hv1 hl1 g1 g2 g3 g4 g5 g6 ⊢
      generalize shiftF y9 kk x i = Z at g1 g2 g3 g4 g5 g6 ⊢
      refine ⟨by omega, fun j hj => ?_, fun j h1 h2 => ?_, fun j hj => ?_, fun j h1 h2 => ?_, ?_⟩
      · have := g2 j hj
        rw [hv j (by omega), hl j (by omega)] at this
        exact this
      · by_cases e : j = i + 1
        · subst e
          have := g4 (i + 1) (by omega)
          rw [hv1, hl1] at this
          exact this
        · have := g3 j h1 (by omega)
          rw [hv (j - 1) (by omega), hl (j - 1) (by omega)] at this
          exact this
      · have := g4 j (by omega)
        rw [hv j (by omega), hl j (by omega)] at this
        exact this
      · by_cases e : j = i
        · rw [e]; exact c
        · have := g5 j h1 (by omega)
          rw [hl j (by omega)] at this
          exact this
      · rcases g6 with z | z
        · exact Or.inl z
        · by_cases e0 : Z.2 = 0
          · exact Or.inl e0
          · rw [hl (Z.2 - 1) (by omega)] at z
            exact Or.inr z
    · rw [shiftF_n c]
      exact ⟨Nat.le_refl _, fun _ _ => ⟨rfl, rfl⟩, fun j h1 h2 => absurd h1 (by show ¬ i + 1 < j; omega), fun _ _ => ⟨rfl, rfl⟩, fun j h1 h2 => absurd h2 (by have h1 : i + 1 ≤ j := h1; omega), Or.inr c⟩
theorem RK_ins {w : St} {kk n : Nat} {fd dd : Nat → Int32} {key : Nat → Int64} (hf : ¬ fd n = 0) (hc : cfN fd n < 16) (h : RK w kk n fd dd key) : RK (insF w kk (dd n) (key n) (cfN fd n)) kk (n + 1) fd dd key := by
  obtain ⟨o9, h1, h2, h3, h4⟩ := h
  have e : cfN fd (n + 1) = cfN fd n + 1 := by simp only [cfN]; rw [if_neg hf]
  obtain ⟨g1, g2, g3, -, g5, g6⟩ := shift_row (kk := kk) (x := key n) (cfN fd n) w
  rw [insF_eq hc]
  generalize hZ : shiftF w kk (key n) (cfN fd n) = Z at g1 g2 g3 g5 g6 ⊢
  have hlo : ∀ j, j < Z.2 → ¬ key (o9 j) < key n := fun j hj => by
    rcases g6 with z | z
    · omega
    · rw [(h2 (Z.2 - 1) (by omega)).2.2.2] at z
      by_cases e2 : j = Z.2 - 1
      · rw [e2]; exact z
      · intro q
        refine z ?_
        rcases h3 j (Z.2 - 1) (by omega) (by omega) with y9 | y9
        · rw [Int64.lt_iff_toInt_lt] at y9 q ⊢; omega
        · rw [← y9.1]; exact q
  have hhi : ∀ j, Z.2 ≤ j → j < cfN fd n → key (o9 j) < key n := fun j a1 a2 => by
    have := g5 j a1 a2
    rw [(h2 j a2).2.2.2] at this
    exact this
  have hent : ∀ i, i < cfN fd n + 1 → (sF (sI (sL Z.1 (2 * kk + 7) Z.2 (key n)) (2 * kk + 6) Z.2 (dd n)) (kk + 2) (nI (cfN fd n + 1))).1 (2 * kk + 6) i = dd (insA o9 Z.2 n i) ∧ (sF (sI (sL Z.1 (2 * kk + 7) Z.2 (key n)) (2 * kk + 6) Z.2 (dd n)) (kk + 2) (nI (cfN fd n + 1))).2.1 (2 * kk + 7) i = key (insA o9 Z.2 n i) := by
    intro i hi
    have s1 : (sF (sI (sL Z.1 (2 * kk + 7) Z.2 (key n)) (2 * kk + 6) Z.2 (dd n)) (kk + 2) (nI (cfN fd n + 1))).1 (2 * kk + 6) = upd (Z.1.1 (2 * kk + 6)) Z.2 (dd n) := by
      show (sI (sL Z.1 (2 * kk + 7) Z.2 (key n)) (2 * kk + 6) Z.2 (dd n)).1 (2 * kk + 6) = _
      rw [sI_eq]
      rfl
    have s2 : (sF (sI (sL Z.1 (2 * kk + 7) Z.2 (key n)) (2 * kk + 6) Z.2 (dd n)) (kk + 2) (nI (cfN fd n + 1))).2.1 (2 * kk + 7) = vp_updL (Z.1.2.1 (2 * kk + 7)) Z.2 (key n) := by
      show (sL Z.1 (2 * kk + 7) Z.2 (key n)).2.1 (2 * kk + 7) = _
      rw [sL_eq]
    rw [s1, s2]
    unfold insA
    by_cases e1 : i = Z.2
    · rw [e1, upd_at, vp_at, if_neg (by omega), if_pos rfl]
      exact ⟨rfl, rfl⟩
    · rw [upd_ne e1, vp_ne e1]
      by_cases e2 : i < Z.2
      · rw [if_pos e2, (g2 i e2).1, (g2 i e2).2]
        exact (h2 i (by omega)).2.2
      · rw [if_neg e2, if_neg e1, (g3 i (by omega) (by omega)).1, (g3 i (by omega) (by omega)).2]
        exact (h2 (i - 1) (by omega)).2.2
  refine ⟨insA o9 Z.2 n, by rw [e]; exact sF_eq, fun i hi => ?_, fun i j hij hj => ?_, fun g => ?_⟩
  · rw [e] at hi
    have hm : insA o9 Z.2 n i < n + 1 ∧ ¬ fd (insA o9 Z.2 n i) = 0 := by
      unfold insA
      split
      · have := h2 i (by omega); exact ⟨by omega, this.2.1⟩
      · split
        · exact ⟨by omega, hf⟩
        · have := h2 (i - 1) (by omega); exact ⟨by omega, this.2.1⟩
    exact ⟨hm.1, hm.2, hent i hi⟩
  · rw [e] at hj
    unfold insA
    by_cases a1 : i < Z.2
    · rw [if_pos a1]
      by_cases a2 : j < Z.2
      · rw [if_pos a2]; exact h3 i j hij (by omega)
      · rw [if_neg a2]
        by_cases a3 : j = Z.2
        · rw [if_pos a3]
          have b1 := hlo i a1
          have b2 := (h2 i (by omega)).1
          by_cases b3 : key n < key (o9 i)
          · exact Or.inl b3
          · refine Or.inr ⟨?_, b2⟩
            apply Int64.toInt_inj.mp
            rw [Int64.lt_iff_toInt_lt] at b1 b3
            omega
        · rw [if_neg a3]; exact h3 i (j - 1) (by omega) (by omega)
    · rw [if_neg a1]
      by_cases a2 : i = Z.2
      · rw [if_pos a2, if_neg (by omega), if_neg (by omega)]
        exact Or.inl (hhi (j - 1) (by omega) (by omega))
      · rw [if_neg a2, if_neg (by omega), if_neg (by omega)]
        exact h3 (i - 1) (j - 1) (by omega) (by omega)
  · rw [e, sumG_c (h := insA (fun i => g (o9 i)) Z.2 (g n)) (cfN fd n + 1) (fun i hi => by unfold insA; split; rfl; split <;> rfl), sumG_ins adN_rc (cfN fd n) g1, h4 g]
    show _ = sumG Nat.add 0 (fun i => if fd i = 0 then 0 else g i) n + (if fd n = 0 then 0 else g n)
    rw [if_neg hf]
    rfl
theorem sum_ones : ∀ n, sumG Nat.add 0 (fun _ => 1) n = n := by
  intro n
  induction n with
  | zero => rfl
  | succ n ih => show sumG Nat.add 0 (fun _ => 1) n + 1 = n + 1; rw [ih]
/-- the one at place j has j before it -/
theorem RK_rank {w : St} {kk n : Nat} {fd dd : Nat → Int32} {key : Nat → Int64} {o9 : Nat → Nat} (h : RKs w kk n fd dd key o9) {j : Nat} (hj : j < cfN fd n) : rkN fd key (o9 j) n = j := by
  obtain ⟨-, -, h3, h4⟩ := h
  rw [rk_sum, ← h4 (b01 key (o9 j)), sumG_cut (add := Nat.add) (z := 0) (o := 0) adN_0 (i := j) (cfN fd n) (by omega) (fun i a1 a2 => b01_0 (by
    by_cases e : i = j
    · exact Or.inr (by rw [e])
    · exact Or.inl (h3 j i (by omega) a2))), sumG_c (h := fun _ => 1) j (fun i hi => b01_1 (h3 i j hi hj)), sum_ones]
theorem RK_onto {w : St} {kk n : Nat} {fd dd : Nat → Int32} {key : Nat → Int64} {o9 : Nat → Nat} (h : RKs w kk n fd dd key o9) {s9 : Nat} (hs : s9 < n) (hf : ¬ fd s9 = 0) : ∃ i, i < cfN fd n ∧ o9 i = s9 := by
  by_cases e : ∃ i, i < cfN fd n ∧ o9 i = s9
  · exact e
  · exfalso
    have h4 := h.2.2.2 (fun j => if j = s9 then 1 else 0)
    have e1 : sumG Nat.add 0 (fun i => (fun j => if j = s9 then 1 else 0) (o9 i)) (cfN fd n) = 0 := sumG_cut (add := Nat.add) (z := 0) (o := 0) adN_0 (i := 0) (cfN fd n) (Nat.zero_le _) (fun j _ hj => if_neg (fun q => e ⟨j, hj, q⟩))
    have e2 := sumN_pos (g := fun i => if fd i = 0 then 0 else (fun j => if j = s9 then 1 else 0) i) (j := s9) (by show 1 ≤ (if fd s9 = 0 then 0 else (if s9 = s9 then 1 else 0)); rw [if_neg hf, if_pos rfl]; exact Nat.le_refl 1) n hs
    rw [e1] at h4
    rw [← h4] at e2
    omega
/-- of two, the same rank: the same -/
theorem RK_inj {w : St} {kk n : Nat} {fd dd : Nat → Int32} {key : Nat → Int64} {o9 : Nat → Nat} (h : RKs w kk n fd dd key o9) {a b : Nat} (ha : a < n) (hb : b < n) (fa : ¬ fd a = 0) (fb : ¬ fd b = 0) (e : rkN fd key a n = rkN fd key b n) : a = b := by
  obtain ⟨i, hi, rfl⟩ := RK_onto h ha fa
  obtain ⟨j, hj, rfl⟩ := RK_onto h hb fb
  rw [RK_rank h hi, RK_rank h hj] at e
  rw [e]
theorem RK_lt {w : St} {kk n : Nat} {fd dd : Nat → Int32} {key : Nat → Int64} {o9 : Nat → Nat} (h : RKs w kk n fd dd key o9) {a : Nat} (ha : a < n) (fa : ¬ fd a = 0) : rkN fd key a n < cfN fd n ∧ w.1 (2 * kk + 6) (rkN fd key a n) = dd a := by
  obtain ⟨i, hi, rfl⟩ := RK_onto h ha fa
  rw [RK_rank h hi]
  exact ⟨hi, (h.2.1 i hi).2.2.1⟩
