/-! the features are the same on both sides -/
theorem had_c {f f2 : Nat → Int32} {m9 : Int32} : ∀ n, (∀ i, i < n → f2 i = f i) → hadF f2 m9 n = hadF f m9 n := by
  intro n
  induction n with
  | zero => intro _; rfl
  | succ n ih => intro h; simp only [hadF]; rw [h n (by omega), ih (fun i hi => h i (by omega))]
theorem sel_c {f f2 : Nat → Int32} {m9 : Int32} : ∀ n, (∀ i, i < n → f2 i = f i) → selF f2 m9 n = selF f m9 n := by
  intro n
  induction n with
  | zero => intro _; rfl
  | succ n ih => intro h; simp only [selF]; rw [h n (by omega), ih (fun i hi => h i (by omega))]
theorem gr_c {f f2 : Nat → Int32} {m9 : Int32} : ∀ n, (∀ i, i < n → f2 i = f i) → grF f2 m9 n = grF f m9 n := by
  intro n
  induction n with
  | zero => intro _; rfl
  | succ n ih => intro h; simp only [grF]; rw [h n (by omega), ih (fun i hi => h i (by omega))]
theorem sum_c {f f2 : Nat → Int32} : ∀ n, (∀ i, i < n → f2 i = f i) → sumF f2 n = sumF f n := by
  intro n
  induction n with
  | zero => intro _; rfl
  | succ n ih => intro h; simp only [sumF]; rw [h n (by omega), ih (fun i hi => h i (by omega))]
theorem feat_c {f f2 : Nat → Int32} {m9 q k : Int32} (h : ∀ i, i < 12 → f2 i = f i) : featF f2 m9 q k = featF f m9 q k := by
  unfold featF
  rw [had_c 12 h, sel_c 12 h, sum_c 12 h, gr_c 12 h]
/-- feature k of a document for a query, as the class has it -/
def ftX (u : St) (q d : Nat) (k : Int32) : Int32 := featF (u.1 (22 + d)) (u.1 2 q) (u.1 10 d) k
theorem ft_tie {u : St} (h : Tie u) {q d : Nat} (hq : q < 8) (hd : d < 16) (k : Int32) : ftX u q d k = ftM u q d k := by
  unfold ftX ftM
  rw [h.msk q hq, h.qual d hd]
  exact feat_c (fun i hi => h.cnt d hd i hi)
theorem meas_8 {u : St} {d k : Nat} {x : Int32} (hk : k < 5) : (measF u d x).1 8 k = featF (u.1 (22 + d)) x (u.1 10 d) (nI k) := by
  unfold measF featF
  rcases (show k = 0 ∨ k = 1 ∨ k = 2 ∨ k = 3 ∨ k = 4 by omega) with rfl | rfl | rfl | rfl | rfl
  · rw [if_neg (by decide), if_pos (by decide), sI_eq, upd_ne (by decide), sI_eq, upd_ne (by decide), sI_eq, upd_ne (by decide), sI_eq, upd_ne (by decide), sI_eq, upd_at]
  · rw [if_neg (by decide), if_neg (by decide), if_pos (by decide), sI_eq, upd_ne (by decide), sI_eq, upd_ne (by decide), sI_eq, upd_ne (by decide), sI_eq, upd_at]
  · rw [if_neg (by decide), if_neg (by decide), if_neg (by decide), if_pos (by decide), sI_eq, upd_ne (by decide), sI_eq, upd_ne (by decide), sI_eq, upd_at]
  · rw [if_pos (by decide), sI_eq, upd_ne (by decide), sI_eq, upd_at]
  · rw [if_neg (by decide), if_neg (by decide), if_neg (by decide), if_neg (by decide), sI_eq, upd_at]
theorem ans_feature {u : St} (h : Inv u) (q d f : Int32) : (featX u q d f).1 = (featM (featX u q d f).2 q d f).1 := by
  have hO : OX u (featX u q d f).2 := OX_featX
  have e : (featM (featX u q d f).2 q d f).1 = (featM u q d f).1 := by
    unfold featM isThF
    rw [hO.1 76 (by decide), hO.1 77 (by decide), hO.1 78 (by decide), hO.1 79 (by decide)]
    repeat' split
    all_goals rfl
  rw [e]
  clear e hO
  unfold featX featM
  rw [wi7, wi4, holds_th h.t]
  by_cases c1 : inF q 8 = 0
  · rw [if_pos c1, if_pos c1]
  · rw [if_neg c1, if_neg c1]
    by_cases c2 : isThF u d = 0
    · rw [if_pos c2, if_pos c2]
    · rw [if_neg c2, if_neg c2]
      by_cases c3 : inF f 5 = 0
      · rw [if_pos c3, if_pos c3]
      · rw [if_neg c3, if_neg c3]
        obtain ⟨i, hi, rfl⟩ := in_ixN 8 c1
        obtain ⟨j, hj, rfl⟩ := vp_in_of (isTh_in c2) (by decide)
        obtain ⟨k, hk, rfl⟩ := in_ixN 5 c3
        rw [nI_clamp (n := i) (by omega), nI_clamp (n := j) (by omega), nI_clamp (n := k) (by omega)]
        show (measF u j (u.1 2 i)).1 8 k = ftM u i j (nI k)
        rw [meas_8 hk]
        exact ft_tie h.t hi hj (nI k)
