/-! sums one after another, and the class's orders: each a rearrangement of the samples by rising feature -/
def sumG {α : Type} (add : α → α → α) (z : α) (g : Nat → α) : Nat → α
  | 0 => z
  | n + 1 => add (sumG add z g n) (g n)
theorem sumG_c {α : Type} {add : α → α → α} {z : α} {g h : Nat → α} : ∀ n, (∀ i, i < n → g i = h i) → sumG add z g n = sumG add z h n := by
  intro n
  induction n with
  | zero => intro _; rfl
  | succ n ih => intro e; simp only [sumG]; rw [ih (fun i hi => e i (by omega)), e n (by omega)]
/-- x put in at place p -/
def insA {α : Type} (h : Nat → α) (p : Nat) (x : α) (i : Nat) : α := if i < p then h i else if i = p then x else h (i - 1)
theorem sumG_ins {α : Type} {add : α → α → α} {z x : α} {h : Nat → α} (rc : ∀ a b c, add (add a b) c = add (add a c) b) {p : Nat} : ∀ k, p ≤ k → sumG add z (insA h p x) (k + 1) = add (sumG add z h k) x := by
  intro k
  induction k with
  | zero =>
    intro hp
    have e : p = 0 := by omega
    subst e
    rfl
  | succ k ih =>
    intro hp
    by_cases e : p = k + 1
    · subst e
      show add (sumG add z (insA h (k + 1) x) (k + 1)) (insA h (k + 1) x (k + 1)) = _
      have e1 : insA h (k + 1) x (k + 1) = x := by unfold insA; rw [if_neg (by omega), if_pos rfl]
      rw [e1, sumG_c (h := h) (k + 1) (fun i hi => by unfold insA; rw [if_pos hi])]
    · show add (sumG add z (insA h p x) (k + 1)) (insA h p x (k + 1)) = add (add (sumG add z h k) (h k)) x
      have e1 : insA h p x (k + 1) = h k := by unfold insA; rw [if_neg (by omega), if_neg (by omega)]; rfl
      rw [e1, ih (by omega), rc]
theorem sumG_cut {α : Type} {add : α → α → α} {z o : α} {g : Nat → α} (h0 : ∀ a, add a o = a) {i : Nat} : ∀ k, i ≤ k → (∀ j, i ≤ j → j < k → g j = o) → sumG add z g k = sumG add z g i := by
  intro k
  induction k with
  | zero => intro hi _; rw [show i = 0 by omega]
  | succ k ih =>
    intro hi h
    by_cases e : i = k + 1
    · rw [e]
    · show add (sumG add z g k) (g k) = _
      rw [h k (by omega) (by omega), h0]
      exact ih (by omega) (fun j h1 h2 => h j h1 (by omega))
def ordAt (w : St) (f k : Nat) (o : Nat → Nat) : Prop := (∀ i, i < k → o i < k ∧ w.1 (54 + f) i = nI (o i)) ∧ (∀ i j, i < j → j < k → w.1 (38 + o i) f ≤ w.1 (38 + o j) f) ∧ ∀ (α : Type) (add : α → α → α) (z : α) (g : Nat → α), (∀ a b c, add (add a b) c = add (add a c) b) → sumG add z (fun i => g (o i)) k = sumG add z g k
def ordOK (w : St) (f k : Nat) : Prop := ∃ o : Nat → Nat, ordAt w f k o
theorem ordOK.mv {w v : St} {f k : Nat} (h : ordOK w f k) (h1 : ∀ i, i < k → v.1 (54 + f) i = w.1 (54 + f) i) (h2 : ∀ i, i < k → v.1 (38 + i) f = w.1 (38 + i) f) : ordOK v f k := by
  obtain ⟨o, ho1, ho2, ho3⟩ := h
  exact ⟨o, fun i hi => ⟨(ho1 i hi).1, by rw [h1 i hi]; exact (ho1 i hi).2⟩, fun i j hij hj => by rw [h2 _ (ho1 i (by omega)).1, h2 _ (ho1 j hj).1]; exact ho2 i j hij hj, ho3⟩
/-- every sample stands somewhere in the order -/
theorem ord_onto {w : St} {f k : Nat} {o : Nat → Nat} (h : ordAt w f k o) {s9 : Nat} (hs : s9 < k) : ∃ i, i < k ∧ o i = s9 := by
  by_cases e : ∃ i, i < k ∧ o i = s9
  · exact e
  · exfalso
    have h3 := h.2.2 Nat Nat.add 0 (fun j => if j = s9 then 1 else 0) (fun a b c => by show a + b + c = a + c + b; omega)
    have a0 : ∀ a : Nat, Nat.add a 0 = a := fun _ => rfl
    have e1 : sumG Nat.add 0 (fun i => (fun j => if j = s9 then 1 else 0) (o i)) k = 0 := by
      have := sumG_cut (add := Nat.add) (z := 0) (o := 0) (g := fun i => (fun j => if j = s9 then 1 else 0) (o i)) a0 (i := 0) k (Nat.zero_le k) (fun j _ hj => if_neg (fun q => e ⟨j, hj, q⟩))
      exact this
    have e2 : sumG Nat.add 0 (fun j => if j = s9 then 1 else 0) k = 1 := by
      have c1 := sumG_cut (add := Nat.add) (z := 0) (o := 0) (g := fun j => if j = s9 then 1 else 0) a0 (i := s9 + 1) k (by omega) (fun j h1 _ => if_neg (by omega))
      have c2 := sumG_cut (add := Nat.add) (z := 0) (o := 0) (g := fun j => if j = s9 then 1 else 0) a0 (i := 0) s9 (Nat.zero_le _) (fun j _ h2 => if_neg (by omega))
      rw [c1]
      show Nat.add (sumG Nat.add 0 (fun j => if j = s9 then 1 else 0) s9) (if s9 = s9 then 1 else 0) = 1
      rw [c2, if_pos rfl]
      rfl
    rw [e1, e2] at h3
    exact absurd h3 (by decide)
/-- how the shifting leaves the row -/
theorem shO_row {f n : Nat} (hf : f < 5) (hn : n < 16) : ∀ (i : Nat) (w : St), i < 16 → (∀ j, j < i → (w.1 (54 + f) j).toNatClampNeg < 16) →
    (shO f n i w).2 ≤ i ∧ (∀ j, j < (shO f n i w).2 → (shO f n i w).1.1 (54 + f) j = w.1 (54 + f) j) ∧ (∀ j, (shO f n i w).2 < j → j ≤ i → (shO f n i w).1.1 (54 + f) j = w.1 (54 + f) (j - 1)) ∧ (∀ j, i < j → (shO f n i w).1.1 (54 + f) j = w.1 (54 + f) j) ∧
      (∀ j, (shO f n i w).2 ≤ j → j < i → ¬ w.1 (38 + (w.1 (54 + f) j).toNatClampNeg) f ≤ w.1 (38 + n) f) ∧ ((shO f n i w).2 = 0 ∨ w.1 (38 + (w.1 (54 + f) ((shO f n i w).2 - 1)).toNatClampNeg) f ≤ w.1 (38 + n) f) := by
  intro i
  induction i with
  | zero => intro w _ _; exact ⟨Nat.le_refl 0, fun _ _ => rfl, fun j h1 h2 => absurd h1 (by show ¬ 0 < j; omega), fun _ _ => rfl, fun j _ h2 => absurd h2 (by omega), Or.inl rfl⟩
  | succ i ih =>
    intro w hi hw
    simp only [shO]
    by_cases c : w.1 (38 + (w.1 (54 + f) i).toNatClampNeg) f ≤ w.1 (38 + n) f
    · rw [if_pos c]
      exact ⟨Nat.le_refl _, fun _ _ => rfl, fun j h1 h2 => absurd h1 (by show ¬ i + 1 < j; omega), fun _ _ => rfl, fun j h1 h2 => absurd h2 (by have h1 : i + 1 ≤ j := h1; omega), Or.inr c⟩
    · rw [if_neg c]
      have hv : ∀ j, j ≠ i + 1 → (sI w (54 + f) (i + 1) (w.1 (54 + f) i)).1 (54 + f) j = w.1 (54 + f) j := fun j hj => by rw [sI_eq, upd_ne hj]
      have hc : ∀ s9, s9 < 16 → (sI w (54 + f) (i + 1) (w.1 (54 + f) i)).1 (38 + s9) = w.1 (38 + s9) := fun s9 hs => sI_ne (by omega)
      obtain ⟨g1, g2, g3, g4, g5, g6⟩ := ih (sI w (54 + f) (i + 1) (w.1 (54 + f) i)) (by omega) (fun j hj => by rw [hv j (by omega)]; exact hw j (by omega))
      generalize hZ : shO f n i (sI w (54 + f) (i + 1) (w.1 (54 + f) i)) = Z at g1 g2 g3 g4 g5 g6 ⊢
      refine ⟨by omega, fun j hj => by rw [g2 j hj, hv j (by omega)], fun j h1 h2 => ?_, fun j hj => by rw [g4 j (by omega), hv j (by omega)], fun j h1 h2 => ?_, ?_⟩
      · by_cases e : j = i + 1
        · subst e
          rw [g4 (i + 1) (by omega), sI_eq, upd_at]
          rfl
        · rw [g3 j h1 (by omega), hv (j - 1) (by omega)]
      · by_cases e : j = i
        · subst e; exact c
        · have := g5 j h1 (by omega)
          rw [hv j (by omega), hc _ (hw j (by omega)), hc n hn] at this
          exact this
      · rcases g6 with z | z
        · exact Or.inl z
        · by_cases e0 : Z.2 = 0
          · exact Or.inl e0
          · refine Or.inr ?_
            rw [hv (Z.2 - 1) (by omega), hc _ (hw (Z.2 - 1) (by omega)), hc n hn] at z
            exact z
theorem ordOK_ins {b : St} {f k : Nat} (hf : f < 5) (hk : k < 16) (h : ordOK b f k) : ordOK (insO b f k k) f (k + 1) := by
  obtain ⟨o, ho1, ho2, ho3⟩ := h
  have hcl : ∀ j, j < k → (b.1 (54 + f) j).toNatClampNeg = o j := fun j hj => by rw [(ho1 j hj).2, nI_clamp (by have := (ho1 j hj).1; omega)]
  obtain ⟨g1, g2, g3, -, g5, g6⟩ := shO_row (n := k) hf hk k b hk (fun j hj => by rw [hcl j hj]; have := (ho1 j hj).1; omega)
  generalize hp : (shO f k k b).2 = p9 at g1 g2 g3 g5 g6
  have hrow : ∀ s9, s9 < 16 → (insO b f k k).1 (38 + s9) = b.1 (38 + s9) := fun s9 hs => insO_ne (by omega)
  have hent : ∀ i, i < k + 1 → (insO b f k k).1 (54 + f) i = nI (insA o p9 k i) := by
    intro i hi
    unfold insO
    rw [hp, sI_eq]
    unfold insA
    by_cases e : i = p9
    · rw [e, upd_at, if_neg (by omega), if_pos rfl]
    · rw [upd_ne e]
      by_cases e2 : i < p9
      · rw [if_pos e2, g2 i e2, (ho1 i (by omega)).2]
      · rw [if_neg e2, if_neg e, g3 i (by omega) (by omega), (ho1 (i - 1) (by omega)).2]
  have hlt : ∀ i, i < k + 1 → insA o p9 k i < k + 1 := by
    intro i hi
    unfold insA
    split
    · have := (ho1 i (by omega)).1; omega
    · split
      · omega
      · have := (ho1 (i - 1) (by omega)).1; omega
  refine ⟨insA o p9 k, fun i hi => ⟨hlt i hi, hent i hi⟩, fun i j hij hj => ?_, fun α add z g rc => ?_⟩
  · have h1 := hlt i (by omega)
    have h2 := hlt j hj
    rw [hrow _ (by omega), hrow _ (by omega)]
    have hE : ∀ q, p9 ≤ q → q < k → b.1 (38 + k) f ≤ b.1 (38 + o q) f := fun q a1 a2 => by
      have := g5 q a1 a2
      rw [hcl q a2] at this
      rw [Int32.le_iff_toInt_le] at this ⊢
      omega
    have hG : ∀ q, q < p9 → b.1 (38 + o q) f ≤ b.1 (38 + k) f := fun q a1 => by
      rcases g6 with z | z
      · omega
      · rw [hcl (p9 - 1) (by omega)] at z
        by_cases e : q = p9 - 1
        · rw [e]; exact z
        · exact Int32.le_trans (ho2 q (p9 - 1) (by omega) (by omega)) z
    unfold insA
    by_cases a1 : i < p9
    · rw [if_pos a1]
      by_cases a2 : j < p9
      · rw [if_pos a2]; exact ho2 i j hij (by omega)
      · rw [if_neg a2]
        by_cases a3 : j = p9
        · rw [if_pos a3]; exact hG i a1
        · rw [if_neg a3]; exact ho2 i (j - 1) (by omega) (by omega)
    · rw [if_neg a1]
      by_cases a2 : i = p9
      · rw [if_pos a2, if_neg (by omega), if_neg (by omega)]
        exact hE (j - 1) (by omega) (by omega)
      · rw [if_neg a2, if_neg (by omega), if_neg (by omega)]
        exact ho2 (i - 1) (j - 1) (by omega) (by omega)
  · rw [sumG_c (h := insA (fun i => g (o i)) p9 (g k)) (k + 1) (fun i hi => by unfold insA; split; rfl; split <;> rfl), sumG_ins rc k g1, ho3 α add z g rc]
    rfl
/-- a sample is added: the rows of the others stay, its own is the measured one, all orders hold -/
theorem addF_all {u : St} {k : Nat} (hk : k < 16) (h : ∀ f, f < 5 → ordOK u f k) : ∀ f, f ≤ 5 → (∀ s9, s9 < 16 → s9 ≠ k → (addF u k f).1 (38 + s9) = u.1 (38 + s9)) ∧ (∀ f2, f2 < f → (addF u k f).1 (38 + k) f2 = u.1 8 f2) ∧ (∀ f2, f2 < f → ordOK (addF u k f) f2 (k + 1)) ∧ (∀ f2, f ≤ f2 → f2 < 5 → (addF u k f).1 (54 + f2) = u.1 (54 + f2)) := by
  intro f
  induction f with
  | zero => intro _; exact ⟨fun _ _ _ => rfl, fun f2 h2 => absurd h2 (by omega), fun f2 h2 => absurd h2 (by omega), fun _ _ _ => rfl⟩
  | succ f ih =>
    intro hf
    obtain ⟨g1, g2, g3, g4⟩ := ih (by omega)
    simp only [addF]
    generalize addF u k f = a at g1 g2 g3 g4 ⊢
    have hrow : ∀ s9, s9 < 16 → (insO (sI a (38 + k) f (u.1 8 f)) f k k).1 (38 + s9) = (sI a (38 + k) f (u.1 8 f)).1 (38 + s9) := fun s9 hs => insO_ne (by omega)
    have hb : ordOK (sI a (38 + k) f (u.1 8 f)) f k := (h f (by omega)).mv (fun i hi => by rw [sI_ne (by omega), g4 f (Nat.le_refl f) (by omega)]) (fun i hi => by rw [sI_ne (by omega), g1 i (by omega) (by omega)])
    have hI := ordOK_ins (by omega) hk hb
    refine ⟨fun s9 hs hne => by rw [hrow s9 hs, sI_ne (by omega)]; exact g1 s9 hs hne, fun f2 h2 => ?_, fun f2 h2 => ?_, fun f2 h2 h5 => by rw [insO_ne (by omega), sI_ne (by omega)]; exact g4 f2 (by omega) h5⟩
    · rw [hrow k hk, sI_eq]
      by_cases e : f2 = f
      · rw [e, upd_at]
      · rw [upd_ne e]; exact g2 f2 (by omega)
    · by_cases e : f2 = f
      · rw [e]; exact hI
      · refine (g3 f2 (by omega)).mv (fun i hi => by rw [insO_ne (by omega), sI_ne (by omega)]) (fun i hi => ?_)
        rw [hrow i (by omega)]
        by_cases e2 : i = k
        · rw [e2, sI_eq, upd_ne e]
        · rw [sI_ne (by omega)]
