/-! the best split: the class's walk along an order and the reference's look at every threshold come to the same -/
def ad64 (a b : Int64) : Int64 := a + b
theorem ad64_rc : ∀ a b c, ad64 (ad64 a b) c = ad64 (ad64 a c) b := fun a b c => by
  show a + b + c = a + c + b
  rw [Int64.add_assoc, Int64.add_comm b c, ← Int64.add_assoc]
theorem ad64_0 : ∀ a, ad64 a 0 = a := fun a => Int64.add_zero a
theorem adN_rc : ∀ a b c, Nat.add (Nat.add a b) c = Nat.add (Nat.add a c) b := fun a b c => by show a + b + c = a + c + b; omega
theorem adN_0 : ∀ a, Nat.add a 0 = a := fun _ => rfl
theorem sumN_add {g h : Nat → Nat} : ∀ k, sumG Nat.add 0 (fun i => g i + h i) k = sumG Nat.add 0 g k + sumG Nat.add 0 h k := by
  intro k
  induction k with
  | zero => rfl
  | succ k ih =>
    show sumG Nat.add 0 (fun i => g i + h i) k + (g k + h k) = (sumG Nat.add 0 g k + g k) + (sumG Nat.add 0 h k + h k)
    rw [ih]
    omega
theorem sumL_add {g h : Nat → Int64} : ∀ k, sumG ad64 0 (fun i => g i + h i) k = sumG ad64 0 g k + sumG ad64 0 h k := by
  intro k
  induction k with
  | zero => rfl
  | succ k ih =>
    show sumG ad64 0 (fun i => g i + h i) k + (g k + h k) = (sumG ad64 0 g k + g k) + (sumG ad64 0 h k + h k)
    rw [ih]
    generalize sumG ad64 0 g k = a
    generalize sumG ad64 0 h k = b
    rw [Int64.add_assoc, Int64.add_assoc, ← Int64.add_assoc b, Int64.add_comm b (g k), Int64.add_assoc]
theorem sumN_le {g : Nat → Nat} (h : ∀ i, g i ≤ 1) : ∀ k, sumG Nat.add 0 g k ≤ k := by
  intro k
  induction k with
  | zero => exact Nat.le_refl 0
  | succ k ih =>
    show sumG Nat.add 0 g k + g k ≤ k + 1
    have := h k
    omega
theorem sumN_pos {g : Nat → Nat} {j : Nat} (hg : 1 ≤ g j) : ∀ k, j < k → 1 ≤ sumG Nat.add 0 g k := by
  intro k
  induction k with
  | zero => intro h; exact absurd h (by omega)
  | succ k ih =>
    intro h
    show 1 ≤ sumG Nat.add 0 g k + g k
    by_cases e : j = k
    · rw [← e]; omega
    · have := ih (by omega); omega
theorem sumN_ex {g : Nat → Nat} : ∀ k, 1 ≤ sumG Nat.add 0 g k → ∃ j, j < k ∧ 1 ≤ g j := by
  intro k
  induction k with
  | zero => intro h; exact absurd h (show ¬ 1 ≤ 0 by decide)
  | succ k ih =>
    intro h
    have h : 1 ≤ sumG Nat.add 0 g k + g k := h
    by_cases e : 1 ≤ g k
    · exact ⟨k, by omega, e⟩
    · obtain ⟨j, hj, hg⟩ := ih (by omega)
      exact ⟨j, by omega, hg⟩
section BEST
variable (nd ft : Nat → Int32) (rs : Nat → Int64) (x y : Int32) (k : Nat)
def NSf : Int64 := sumG ad64 0 (fun i => if nd i = x then rs i else 0) k
def NCf : Nat := sumG Nat.add 0 (fun i => if nd i = x then 1 else 0) k
def LSf (t : Int32) : Int64 := sumG ad64 0 (fun i => if nd i = x then (if ft i ≤ t then rs i else 0) else 0) k
def HSf (t : Int32) : Int64 := sumG ad64 0 (fun i => if nd i = x then (if ft i ≤ t then 0 else rs i) else 0) k
def LCf (t : Int32) : Nat := sumG Nat.add 0 (fun i => if nd i = x then (if ft i ≤ t then 1 else 0) else 0) k
def HCf (t : Int32) : Nat := sumG Nat.add 0 (fun i => if nd i = x then (if ft i ≤ t then 0 else 1) else 0) k
def amD (t : Int32) : Nat → Int32
  | 0 => 0
  | i + 1 => if nd i = x then (if ft i = t then 1 else amD t i) else amD t i
def gainF (t : Int32) : Int64 := worthF (LSf nd ft rs x k t) (LCf nd ft x k t) + worthF (HSf nd ft rs x k t) (HCf nd ft x k t)
end BEST
abbrev B3 : Type := Int64 × Int32 × Int32
def stepB (y : Int32) (lc hc : Nat) (g : Int64) (f t : Int32) (b : B3) : B3 := if nI lc < y then b else if y ≤ nI hc then (if 0 < lg_cmp g b.1 then (g, f, t) else b) else b
def foldB (nd ft : Nat → Int32) (rs : Nat → Int64) (x y : Int32) (k f : Nat) (b : B3) : Nat → B3
  | 0 => b
  | t + 1 => if amD nd ft x (nI t) k = 0 then foldB nd ft rs x y k f b t else stepB y (LCf nd ft x k (nI t)) (HCf nd ft x k (nI t)) (gainF nd ft rs x k (nI t)) (nI f) (nI t) (foldB nd ft rs x y k f b t)
theorem amD_no {nd ft : Nat → Int32} {x t : Int32} : ∀ k, amD nd ft x t k = 0 → ∀ i, i < k → nd i = x → ¬ ft i = t := by
  intro k
  induction k with
  | zero => intro _ i hi; exact absurd hi (by omega)
  | succ k ih =>
    intro h i hi hn hf
    simp only [amD] at h
    by_cases e : i = k
    · subst e
      rw [if_pos hn, if_pos hf] at h
      exact absurd h (by decide)
    · refine ih ?_ i (by omega) hn hf
      split at h
      · split at h
        · exact absurd h (by decide)
        · exact h
      · exact h
theorem amD_yes {nd ft : Nat → Int32} {x t : Int32} : ∀ k, (∀ i, i < k → nd i = x → ¬ ft i = t) → amD nd ft x t k = 0 := by
  intro k
  induction k with
  | zero => intro _; rfl
  | succ k ih =>
    intro h
    simp only [amD]
    by_cases c : nd k = x
    · rw [if_pos c, if_neg (h k (by omega) c)]
      exact ih (fun i hi => h i (by omega))
    · rw [if_neg c]
      exact ih (fun i hi => h i (by omega))
theorem NC_eq {nd ft : Nat → Int32} {x : Int32} {k : Nat} (t : Int32) : NCf nd x k = LCf nd ft x k t + HCf nd ft x k t := by
  unfold NCf LCf HCf
  rw [← sumN_add]
  exact sumG_c k (fun i _ => by split; (split; rfl; rfl); rfl)
theorem NS_eq {nd ft : Nat → Int32} {rs : Nat → Int64} {x : Int32} {k : Nat} (t : Int32) : NSf nd rs x k = LSf nd ft rs x k t + HSf nd ft rs x k t := by
  unfold NSf LSf HSf
  rw [← sumL_add]
  exact sumG_c k (fun i _ => by
    split
    · split
      · rw [Int64.add_zero]
      · rw [Int64.zero_add]
    · rfl)
theorem LC_le {nd ft : Nat → Int32} {x t : Int32} (k : Nat) : LCf nd ft x k t ≤ k := sumN_le (fun i => by split; (split <;> omega); omega) k
theorem HC_le {nd ft : Nat → Int32} {x t : Int32} (k : Nat) : HCf nd ft x k t ≤ k := sumN_le (fun i => by split; (split <;> omega); omega) k
theorem NC_le {nd : Nat → Int32} {x : Int32} (k : Nat) : NCf nd x k ≤ k := sumN_le (fun i => by split <;> omega) k
theorem shareI_n {n : Nat} (h : n ≤ 16) : shareI (nI n) = shareN n := by
  unfold shareI shareN
  have e : ∀ a, a ≤ 16 → ((nI n ≤ nI a) ↔ n ≤ a) := fun a ha => nI_leI (by omega) (by omega)
  by_cases h1 : n ≤ 1
  · rw [if_pos ((e 1 (by omega)).mpr h1), if_pos h1]
  · rw [if_neg (fun q => h1 ((e 1 (by omega)).mp q)), if_neg h1]
    by_cases h2 : n ≤ 2
    · rw [if_pos ((e 2 (by omega)).mpr h2), if_pos h2]
    · rw [if_neg (fun q => h2 ((e 2 (by omega)).mp q)), if_neg h2]
      by_cases h4 : n ≤ 4
      · rw [if_pos ((e 4 (by omega)).mpr h4), if_pos h4]
      · rw [if_neg (fun q => h4 ((e 4 (by omega)).mp q)), if_neg h4]
        by_cases h8 : n ≤ 8
        · rw [if_pos ((e 8 (by omega)).mpr h8), if_pos h8]
        · rw [if_neg (fun q => h8 ((e 8 (by omega)).mp q)), if_neg h8]
theorem worthI_n {S9 : Int64} {n : Nat} (h : n ≤ 16) : worthI S9 (nI n) = worthF S9 n := by
  unfold worthI worthF
  rw [shareI_n h]
def tr3 (w : St) : B3 := (w.2.2.2 1, w.2.2.1 6, w.2.2.1 7)
def tm3 (w : St) : B3 := (w.2.2.2 2, w.2.2.1 14, w.2.2.1 15)
theorem ws_3 {w : St} {f t : Int32} {S9 : Int64} {lc hc : Nat} (hl : lc ≤ 16) (hh : hc ≤ 16) (h5 : w.2.2.1 5 = nI (lc + hc)) : tr3 (wsF w f t S9 (nI lc)) = stepB (w.2.2.1 4) lc hc (worthF S9 lc + worthF (w.2.2.2 0 - S9) hc) f t (tr3 w) := by
  have e5 : w.2.2.1 5 - nI lc = nI hc := by
    rw [h5, ← nI_add, Int32.add_comm, Int32.add_sub_cancel]
  unfold wsF stepB
  rw [e5, worthI_n hl, worthI_n hh]
  by_cases c1 : nI lc < w.2.2.1 4
  · rw [if_pos c1, if_pos c1]
  · rw [if_neg c1, if_neg c1]
    by_cases c2 : w.2.2.1 4 ≤ nI hc
    · rw [if_pos c2, if_pos c2]
      generalize worthF S9 lc + worthF (w.2.2.2 0 - S9) hc = g9
      have e0 : (tr3 w).1 = w.2.2.2 1 := rfl
      rw [e0]
      by_cases c3 : lg_cmp g9 (w.2.2.2 1) ≤ 0
      · have c4 : ¬ 0 < lg_cmp g9 (w.2.2.2 1) := fun q => by
          rw [Int32.lt_iff_toInt_lt] at q
          rw [Int32.le_iff_toInt_le] at c3
          omega
        rw [if_pos c3, if_neg c4]
      · have c4 : 0 < lg_cmp g9 (w.2.2.2 1) := by
          rw [Int32.lt_iff_toInt_lt]
          rw [Int32.le_iff_toInt_le] at c3
          omega
        rw [if_neg c3, if_pos c4]
        rfl
    · rw [if_neg c2, if_neg c2]
theorem fold_skip {nd ft : Nat → Int32} {rs : Nat → Int64} {x y : Int32} {k f : Nat} {b : B3} {a : Nat} : ∀ T, a ≤ T → (∀ t, a ≤ t → t < T → amD nd ft x (nI t) k = 0) → foldB nd ft rs x y k f b T = foldB nd ft rs x y k f b a := by
  intro T
  induction T with
  | zero => intro h _; rw [show a = 0 by omega]
  | succ T ih =>
    intro h1 h2
    by_cases e : a = T + 1
    · rw [e]
    · simp only [foldB]
      rw [if_pos (h2 T (by omega) (by omega))]
      exact ih (by omega) (fun t h3 h4 => h2 t h3 (by omega))
theorem step_no {y : Int32} {lc hc : Nat} {g : Int64} {f t : Int32} {b : B3} (hy : 1 ≤ y) (h : lc = 0 ∨ hc = 0) : stepB y lc hc g f t b = b := by
  unfold stepB
  have hy' := Int32.le_iff_toInt_le.mp hy
  have e1 : (1 : Int32).toInt = 1 := rfl
  rw [e1] at hy'
  rcases h with h | h
  · rw [h, if_pos (by rw [Int32.lt_iff_toInt_lt]; show (0 : Int32).toInt < _; rw [show (0 : Int32).toInt = 0 from rfl]; omega)]
  · split
    · rfl
    · rw [if_neg]
      rw [h, Int32.le_iff_toInt_le]
      show ¬ y.toInt ≤ (0 : Int32).toInt
      rw [show (0 : Int32).toInt = 0 from rfl]
      omega
set_option maxHeartbeats 1000000 in
theorem wt_main {u : St} {x : Int32} {f k : Nat} {o : Nat → Nat} (hk : k ≤ 16) (ho : ordAt u f k o) (hft : ∀ i, i < k → ∃ v : Nat, v < 200 ∧ u.1 (38 + i) f = nI v) (hy : 1 ≤ u.2.2.1 4) (hN : u.2.2.1 5 = nI (NCf (u.1 17) x k)) (hS : u.2.2.2 0 = NSf (u.1 17) (u.2.1 15) x k) :
    ∀ i, i ≤ k → ∃ c : Nat, c < 200 ∧ (wtF u x f i).1 = sumG ad64 0 (fun j => if u.1 17 (o j) = x then u.2.1 15 (o j) else 0) i ∧ (wtF u x f i).2.1 = nI (sumG Nat.add 0 (fun j => if u.1 17 (o j) = x then 1 else 0) i) ∧ (wtF u x f i).2.2.1 = nI c ∧
      tr3 (wtF u x f i).2.2.2 = foldB (u.1 17) (fun j => u.1 (38 + j) f) (u.2.1 15) x (u.2.2.1 4) k f (tr3 u) c ∧ (∀ j, j < i → u.1 17 (o j) = x → u.1 (38 + o j) f ≤ nI c) ∧ (c = 0 ∨ ∃ j, j < i ∧ u.1 17 (o j) = x ∧ u.1 (38 + o j) f = nI c) := by
  intro i
  induction i with
  | zero => intro _; exact ⟨0, by omega, rfl, rfl, rfl, rfl, fun j hj => absurd hj (by omega), Or.inl rfl⟩
  | succ i ih =>
    intro hi
    obtain ⟨c, hc, h1, h2, h3, h4, h5, h6⟩ := ih (by omega)
    have hoi := ho.1 i (by omega)
    have eo : (u.1 (54 + f) i).toNatClampNeg = o i := by rw [hoi.2, nI_clamp (by omega)]
    obtain ⟨vv, hvv, hv⟩ := hft (o i) hoi.1
    simp only [wtF]
    rw [eo]
    by_cases c1 : u.1 17 (o i) = x
    · rw [if_pos c1]
      have s1 : sumG ad64 0 (fun j => if u.1 17 (o j) = x then u.2.1 15 (o j) else 0) (i + 1) = (wtF u x f i).1 + u.2.1 15 (o i) := by
        rw [h1]
        show ad64 _ (if u.1 17 (o i) = x then u.2.1 15 (o i) else 0) = _
        rw [if_pos c1]
        rfl
      have s2 : nI (sumG Nat.add 0 (fun j => if u.1 17 (o j) = x then 1 else 0) (i + 1)) = (wtF u x f i).2.1 + 1 := by
        rw [h2]
        show nI (Nat.add _ (if u.1 17 (o i) = x then 1 else 0)) = _
        rw [if_pos c1]
        exact (nI_1 _).symm
      rw [h3, hv]
      by_cases c2 : nI vv ≤ nI c
      · rw [if_pos c2]
        refine ⟨c, hc, s1.symm, s2.symm, rfl, h4, fun j hj hn => ?_, ?_⟩
        · by_cases e : j = i
          · rw [e, hv]; exact c2
          · exact h5 j (by omega) hn
        · rcases h6 with z | ⟨j, hj, z⟩
          · exact Or.inl z
          · exact Or.inr ⟨j, by omega, z⟩
      · rw [if_neg c2]
        have hcv : c < vv := by
          rcases Nat.lt_or_ge c vv with z | z
          · exact z
          · exact absurd ((nI_leI (a := vv) (b := c) (by omega) (by omega)).mpr z) c2
        -- behind place i all features are vv or more
        have hge : ∀ j, i ≤ j → j < k → nI vv ≤ u.1 (38 + o j) f := fun j h7 h8 => by
          by_cases e : j = i
          · rw [e, hv]; exact Int32.le_refl _
          · rw [← hv]; exact ho.2.1 i j (by omega) h8
        have hgt : ∀ j, i ≤ j → j < k → ¬ u.1 (38 + o j) f ≤ nI c := fun j h7 h8 q => c2 (Int32.le_trans (hge j h7 h8) q)
        refine ⟨vv, hvv, s1.symm, s2.symm, rfl, ?_, fun j hj hn => ?_, Or.inr ⟨i, by omega, c1, hv⟩⟩
        · show tr3 (wsF (wtF u x f i).2.2.2 (nI f) (nI c) (wtF u x f i).1 (wtF u x f i).2.1) = _
          have hskip : foldB (u.1 17) (fun j => u.1 (38 + j) f) (u.2.1 15) x (u.2.2.1 4) k f (tr3 u) vv = foldB (u.1 17) (fun j => u.1 (38 + j) f) (u.2.1 15) x (u.2.2.1 4) k f (tr3 u) (c + 1) := fold_skip vv (by omega) (fun t h7 h8 => amD_yes k (fun s9 hs hn hf9 => by
            obtain ⟨j, hj, e⟩ := ord_onto ho hs
            subst e
            have hf9 : u.1 (38 + o j) f = nI t := hf9
            rcases Nat.lt_or_ge j i with z | z
            · have := h5 j z hn
              rw [hf9] at this
              have := (nI_leI (a := t) (b := c) (by omega) (by omega)).mp this
              omega
            · have := hge j z hj
              rw [hf9] at this
              have := (nI_leI (a := vv) (b := t) (by omega) (by omega)).mp this
              omega))
          rw [hskip]
          simp only [foldB]
          by_cases c3 : amD (u.1 17) (fun j => u.1 (38 + j) f) x (nI c) k = 0
          · rw [if_pos c3, ← h4]
            have hn0 : sumG Nat.add 0 (fun j => if u.1 17 (o j) = x then 1 else 0) i = 0 := by
              have h0 : c = 0 := by
                rcases h6 with z | ⟨j, hj, z1, z2⟩
                · exact z
                · exact absurd z2 (amD_no k c3 (o j) (ho.1 j (by omega)).1 z1)
              refine sumG_cut (add := Nat.add) (z := 0) (o := 0) adN_0 (i := 0) i (Nat.zero_le i) (fun j _ hj => if_neg (fun q => ?_))
              have h7 := h5 j hj q
              obtain ⟨v2, hv2, e2⟩ := hft (o j) (ho.1 j (by omega)).1
              rw [e2] at h7
              have := (nI_leI (a := v2) (b := c) (by omega) (by omega)).mp h7
              exact amD_no k c3 (o j) (ho.1 j (by omega)).1 q (by show u.1 (38 + o j) f = nI c; rw [e2]; exact congrArg nI (by omega))
            rw [h2, hn0]
            have e4 : (wtF u x f i).2.2.2.2.2.1 4 = u.2.2.1 4 := wtF_F (by decide) i
            have : wsF (wtF u x f i).2.2.2 (nI f) (nI c) (wtF u x f i).1 (nI 0) = (wtF u x f i).2.2.2 := by
              unfold wsF
              rw [e4, if_pos]
              have hy' := Int32.le_iff_toInt_le.mp hy
              rw [show (1 : Int32).toInt = 1 from rfl] at hy'
              rw [Int32.lt_iff_toInt_lt]
              show (0 : Int32).toInt < _
              rw [show (0 : Int32).toInt = 0 from rfl]
              omega
            rw [this]
          · rw [if_neg c3, ← h4]
            have eL : sumG Nat.add 0 (fun j => if u.1 17 (o j) = x then 1 else 0) i = LCf (u.1 17) (fun j => u.1 (38 + j) f) x k (nI c) := by
              have p1 := ho.2.2 Nat Nat.add 0 (fun s9 => if u.1 17 s9 = x then (if u.1 (38 + s9) f ≤ nI c then 1 else 0) else 0) adN_rc
              unfold LCf
              rw [← p1]
              rw [sumG_cut (add := Nat.add) (z := 0) (o := 0) adN_0 (i := i) k (by omega) (fun j h7 h8 => by
                show (if u.1 17 (o j) = x then (if u.1 (38 + o j) f ≤ nI c then 1 else 0) else 0) = 0
                rw [if_neg (hgt j h7 h8)]
                split <;> rfl)]
              exact sumG_c i (fun j hj => by
                show _ = (if u.1 17 (o j) = x then (if u.1 (38 + o j) f ≤ nI c then 1 else 0) else 0)
                by_cases q : u.1 17 (o j) = x
                · rw [if_pos q, if_pos q, if_pos (h5 j hj q)]
                · rw [if_neg q, if_neg q])
            have eS : (wtF u x f i).1 = LSf (u.1 17) (fun j => u.1 (38 + j) f) (u.2.1 15) x k (nI c) := by
              rw [h1]
              have p1 := ho.2.2 Int64 ad64 0 (fun s9 => if u.1 17 s9 = x then (if u.1 (38 + s9) f ≤ nI c then u.2.1 15 s9 else 0) else 0) ad64_rc
              unfold LSf
              rw [← p1]
              rw [sumG_cut (add := ad64) (z := 0) (o := 0) ad64_0 (i := i) k (by omega) (fun j h7 h8 => by
                show (if u.1 17 (o j) = x then (if u.1 (38 + o j) f ≤ nI c then u.2.1 15 (o j) else 0) else 0) = 0
                rw [if_neg (hgt j h7 h8)]
                split <;> rfl)]
              exact sumG_c i (fun j hj => by
                show _ = (if u.1 17 (o j) = x then (if u.1 (38 + o j) f ≤ nI c then u.2.1 15 (o j) else 0) else 0)
                by_cases q : u.1 17 (o j) = x
                · rw [if_pos q, if_pos q, if_pos (h5 j hj q)]
                · rw [if_neg q, if_neg q])
            rw [h2, eL, eS]
            have e4 : (wtF u x f i).2.2.2.2.2.1 4 = u.2.2.1 4 := wtF_F (by decide) i
            have e5 : (wtF u x f i).2.2.2.2.2.1 5 = u.2.2.1 5 := wtF_F (by decide) i
            have e0 : (wtF u x f i).2.2.2.2.2.2 0 = u.2.2.2 0 := wtF_G (by decide) i
            have l1 := LC_le (nd := u.1 17) (ft := fun j => u.1 (38 + j) f) (x := x) (t := nI c) k
            have l2 := HC_le (nd := u.1 17) (ft := fun j => u.1 (38 + j) f) (x := x) (t := nI c) k
            have hd : u.2.2.2 0 - LSf (u.1 17) (fun j => u.1 (38 + j) f) (u.2.1 15) x k (nI c) = HSf (u.1 17) (fun j => u.1 (38 + j) f) (u.2.1 15) x k (nI c) := by
              rw [hS, NS_eq (ft := fun j => u.1 (38 + j) f) (nI c), Int64.add_comm, Int64.add_sub_cancel]
            rw [ws_3 (lc := LCf (u.1 17) (fun j => u.1 (38 + j) f) x k (nI c)) (hc := HCf (u.1 17) (fun j => u.1 (38 + j) f) x k (nI c)) (by omega) (by omega) (by rw [e5, hN, NC_eq (ft := fun j => u.1 (38 + j) f) (nI c)]), e4, e0, hd]
            rfl
        · by_cases e : j = i
          · rw [e, hv]; exact Int32.le_refl _
          · exact Int32.le_trans (h5 j (by omega) hn) ((nI_leI (a := c) (b := vv) (by omega) (by omega)).mpr (by omega))
    · rw [if_neg c1]
      refine ⟨c, hc, ?_, ?_, h3, h4, fun j hj hn => ?_, ?_⟩
      · rw [h1]
        show _ = ad64 _ (if u.1 17 (o i) = x then u.2.1 15 (o i) else 0)
        rw [if_neg c1, ad64_0]
      · rw [h2]
        show nI _ = nI (Nat.add _ (if u.1 17 (o i) = x then 1 else 0))
        rw [if_neg c1]
        rfl
      · by_cases e : j = i
        · rw [e] at hn; exact absurd hn c1
        · exact h5 j (by omega) hn
      · rcases h6 with z | ⟨j, hj, z⟩
        · exact Or.inl z
        · exact Or.inr ⟨j, by omega, z⟩
/-- one feature of the class's search -/
theorem wt_all {u : St} {x : Int32} {f k : Nat} (hk : k ≤ 16) (ho : ordOK u f k) (hft : ∀ i, i < k → ∃ v : Nat, v < 200 ∧ u.1 (38 + i) f = nI v) (hy : 1 ≤ u.2.2.1 4) (hN : u.2.2.1 5 = nI (NCf (u.1 17) x k)) (hS : u.2.2.2 0 = NSf (u.1 17) (u.2.1 15) x k) :
    tr3 (wtF u x f k).2.2.2 = foldB (u.1 17) (fun j => u.1 (38 + j) f) (u.2.1 15) x (u.2.2.1 4) k f (tr3 u) 200 := by
  obtain ⟨o, ho⟩ := ho
  obtain ⟨c, hc, -, -, -, h4, h5, -⟩ := wt_main (x := x) hk ho hft hy hN hS k (Nat.le_refl k)
  have hall : ∀ s9, s9 < k → u.1 17 s9 = x → u.1 (38 + s9) f ≤ nI c := fun s9 hs hn => by
    obtain ⟨j, hj, e⟩ := ord_onto ho hs
    subst e
    exact h5 j hj hn
  rw [h4, fold_skip (a := c + 1) 200 (by omega) (fun t h1 h2 => amD_yes k (fun s9 hs hn hf9 => by
    have := hall s9 hs hn
    have hf9 : u.1 (38 + s9) f = nI t := hf9
    rw [hf9] at this
    have := (nI_leI (a := t) (b := c) (by omega) (by omega)).mp this
    omega))]
  simp only [foldB]
  split
  · rfl
  · rw [step_no hy (Or.inr ?_)]
    refine sumG_cut (add := Nat.add) (z := 0) (o := 0) adN_0 (i := 0) k (Nat.zero_le k) (fun j _ hj => ?_)
    by_cases q : u.1 17 j = x
    · rw [if_pos q, if_pos (hall j hj q)]
    · rw [if_neg q]
