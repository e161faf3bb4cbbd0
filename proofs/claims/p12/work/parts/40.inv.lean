/-! the invariant of the law's loop: what the class's methods and the reference's need, and what of both states is tied together -/
def Same (P Q R S : Nat → Prop) (u w : St) : Prop := (∀ j, P j → w.1 j = u.1 j) ∧ (∀ j, Q j → w.2.1 j = u.2.1 j) ∧ (∀ j, R j → w.2.2.1 j = u.2.2.1 j) ∧ (∀ j, S j → w.2.2.2 j = u.2.2.2 j)
theorem Same.rf {P Q R S : Nat → Prop} {u : St} : Same P Q R S u u := ⟨fun _ _ => rfl, fun _ _ => rfl, fun _ _ => rfl, fun _ _ => rfl⟩
theorem Same.tr {P Q R S : Nat → Prop} {u v w : St} (h1 : Same P Q R S u v) (h2 : Same P Q R S v w) : Same P Q R S u w := ⟨fun j h => (h2.1 j h).trans (h1.1 j h), fun j h => (h2.2.1 j h).trans (h1.2.1 j h), fun j h => (h2.2.2.1 j h).trans (h1.2.2.1 j h), fun j h => (h2.2.2.2 j h).trans (h1.2.2.2 j h)⟩
theorem Same.weak {P Q R S P' Q' R' S' : Nat → Prop} {u w : St} (h : Same P Q R S u w) (hP : ∀ j, P' j → P j) (hQ : ∀ j, Q' j → Q j) (hR : ∀ j, R' j → R j) (hS : ∀ j, S' j → S j) : Same P' Q' R' S' u w := ⟨fun j z => h.1 j (hP j z), fun j z => h.2.1 j (hQ j z), fun j z => h.2.2.1 j (hR j z), fun j z => h.2.2.2 j (hS j z)⟩
def nX (u : St) : Nat := (u.2.2.1 2).toNatClampNeg
def nM (u : St) : Nat := (u.2.2.1 11).toNatClampNeg
def aM (u : St) : Nat := (u.2.2.1 10).toNatClampNeg
def gcN (f : Nat → Int32) : Nat → Nat
  | 0 => 0
  | t + 1 => if f t < 0 then gcN f t else gcN f t + 1
theorem pos_gc (f : Nat → Int32) : ∀ n, posF f n = nI (gcN f n) := by
  intro n
  induction n with
  | zero => rfl
  | succ n ih =>
    simp only [posF, gcN]
    split
    · exact ih
    · rw [ih]; exact nI_1 _
theorem gc_le (f : Nat → Int32) : ∀ n, gcN f n ≤ n := by
  intro n
  induction n with
  | zero => exact Nat.le_refl 0
  | succ n ih =>
    simp only [gcN]
    split <;> omega
theorem lv_gc (u : St) : ∀ n, lvN u n ≤ gcN (u.1 80) n := by
  intro n
  induction n with
  | zero => exact Nat.le_refl 0
  | succ n ih =>
    simp only [lvN, gcN]
    split
    · exact ih
    · split <;> omega
theorem gc_congr {f f2 : Nat → Int32} : ∀ n, (∀ j, j < n → f2 j = f j) → gcN f2 n = gcN f n := by
  intro n
  induction n with
  | zero => intro _; rfl
  | succ n ih =>
    intro h
    simp only [gcN]
    rw [h n (by omega), ih (fun j hj => h j (by omega))]
theorem gc_upd {f : Nat → Int32} {j : Nat} {x : Int32} : ∀ n, j < n → gcN (upd f j x) n + (if f j < 0 then 0 else 1) = gcN f n + (if x < 0 then 0 else 1) := by
  intro n
  induction n with
  | zero => intro h; exact absurd h (by omega)
  | succ n ih =>
    intro h
    simp only [gcN]
    by_cases e : n = j
    · subst e
      have e1 : upd f n x n = x := if_pos rfl
      have e2 : gcN (upd f n x) n = gcN f n := gc_congr n (fun i hi => if_neg (by omega))
      rw [e1, e2]
      split <;> split <;> omega
    · have e1 : upd f j x n = f n := if_neg e
      have := ih (by omega)
      rw [e1]
      split
      · exact this
      · omega
/-- what the class's methods need -/
def IX (u : St) : Prop := (∀ d, d < 16 → ∀ t, t < 12 → 0 ≤ u.1 (22 + d) t) ∧ (nX u ≤ 4) ∧ (u.2.2.1 2 = nI (nX u)) ∧ (∀ t, t < nX u → ∀ j, j < 7 → u.1 (63 + t) j < 5) ∧ (0 ≤ u.2.2.1 0)
theorem IX.nn {u : St} (h : IX u) : ∀ d, d < 16 → ∀ t, t < 12 → 0 ≤ u.1 (22 + d) t := h.1
theorem IX.n4 {u : St} (h : IX u) : nX u ≤ 4 := h.2.1
theorem IX.s2 {u : St} (h : IX u) : u.2.2.1 2 = nI (nX u) := h.2.2.1
theorem IX.tT {u : St} (h : IX u) : ∀ t, t < nX u → ∀ j, j < 7 → u.1 (63 + t) j < 5 := h.2.2.2.1
theorem IX.d0 {u : St} (h : IX u) : 0 ≤ u.2.2.1 0 := h.2.2.2.2
/-- what the reference's methods need -/
def IM (u : St) : Prop := (aM u ≤ 16) ∧ (u.2.2.1 10 = nI (aM u)) ∧ (∀ i, i < 16 → ixD (u.1 88 i)) ∧ (∀ i, i < 16 → ixD (u.1 89 i)) ∧ (∀ j, j < 128 → u.1 80 j ≤ 7) ∧ (gcN (u.1 80) 128 ≤ 16) ∧ (nM u ≤ 4) ∧ (u.2.2.1 11 = nI (nM u)) ∧ (∀ t, t < nM u → ∀ j, j < 7 → u.1 81 (t * 7 + j) = 2 → j < 3)
theorem IM.a16 {u : St} (h : IM u) : aM u ≤ 16 := h.1
theorem IM.s10 {u : St} (h : IM u) : u.2.2.1 10 = nI (aM u) := h.2.1
theorem IM.c88 {u : St} (h : IM u) : ∀ i, i < 16 → ixD (u.1 88 i) := h.2.2.1
theorem IM.c89 {u : St} (h : IM u) : ∀ i, i < 16 → ixD (u.1 89 i) := h.2.2.2.1
theorem IM.g7 {u : St} (h : IM u) : ∀ j, j < 128 → u.1 80 j ≤ 7 := h.2.2.2.2.1
theorem IM.l16 {u : St} (h : IM u) : gcN (u.1 80) 128 ≤ 16 := h.2.2.2.2.2.1
theorem IM.n4 {u : St} (h : IM u) : nM u ≤ 4 := h.2.2.2.2.2.2.1
theorem IM.s11 {u : St} (h : IM u) : u.2.2.1 11 = nI (nM u) := h.2.2.2.2.2.2.2.1
theorem IM.k3 {u : St} (h : IM u) : ∀ t, t < nM u → ∀ j, j < 7 → u.1 81 (t * 7 + j) = 2 → j < 3 := h.2.2.2.2.2.2.2.2
theorem IM.lv {u : St} (h : IM u) : lvN u 128 ≤ 16 := Nat.le_trans (lv_gc u 128) h.l16
/-- documents, terms, queries, judgements, depth are the same on both sides -/
def Tie (u : St) : Prop := (∀ d, d < 16 → u.1 9 d = u.1 76 d) ∧ (∀ d, d < 16 → u.1 10 d = u.1 77 d) ∧ (∀ d, d < 16 → ∀ t, t < 12 → u.1 (22 + d) t = u.1 78 (d * 12 + t)) ∧ (∀ q, q < 8 → u.1 2 q = u.1 79 q) ∧ (∀ j, j < 128 → u.1 12 j = u.1 80 j) ∧ (∀ j, j < 128 → -1 ≤ u.1 80 j) ∧ (u.2.2.1 1 = nI (gcN (u.1 80) 128)) ∧ (u.2.2.1 0 = u.2.2.1 10)
theorem Tie.there {u : St} (h : Tie u) : ∀ d, d < 16 → u.1 9 d = u.1 76 d := h.1
theorem Tie.qual {u : St} (h : Tie u) : ∀ d, d < 16 → u.1 10 d = u.1 77 d := h.2.1
theorem Tie.cnt {u : St} (h : Tie u) : ∀ d, d < 16 → ∀ t, t < 12 → u.1 (22 + d) t = u.1 78 (d * 12 + t) := h.2.2.1
theorem Tie.msk {u : St} (h : Tie u) : ∀ q, q < 8 → u.1 2 q = u.1 79 q := h.2.2.2.1
theorem Tie.grd {u : St} (h : Tie u) : ∀ j, j < 128 → u.1 12 j = u.1 80 j := h.2.2.2.2.1
theorem Tie.gm {u : St} (h : Tie u) : ∀ j, j < 128 → -1 ≤ u.1 80 j := h.2.2.2.2.2.1
theorem Tie.num {u : St} (h : Tie u) : u.2.2.1 1 = nI (gcN (u.1 80) 128) := h.2.2.2.2.2.2.1
theorem Tie.dep {u : St} (h : Tie u) : u.2.2.1 0 = u.2.2.1 10 := h.2.2.2.2.2.2.2
def Inv (u : St) : Prop := (IX u) ∧ (IM u) ∧ (Tie u)
theorem Inv.x {u : St} (h : Inv u) : IX u := h.1
theorem Inv.m {u : St} (h : Inv u) : IM u := h.2.1
theorem Inv.t {u : St} (h : Inv u) : Tie u := h.2.2
/-- the reference's part is untouched -/
abbrev KM (u w : St) : Prop := Same (fun j => 75 ≤ j) (fun j => 75 ≤ j) (fun j => 10 ≤ j) (fun j => 2 ≤ j) u w
abbrev KX (u w : St) : Prop := Same (fun j => j < 75) (fun j => j < 75) (fun j => j < 10) (fun j => j < 2) u w
theorem IM.keep {u w : St} (h : IM u) (k : KM u w) : IM w := by
  have e10 : w.2.2.1 10 = u.2.2.1 10 := k.2.2.1 10 (by decide)
  have e11 : w.2.2.1 11 = u.2.2.1 11 := k.2.2.1 11 (by decide)
  have ea : aM w = aM u := by unfold aM; rw [e10]
  have en : nM w = nM u := by unfold nM; rw [e11]
  have e80 := k.1 80 (by decide)
  refine ⟨by rw [ea]; exact h.a16, by rw [e10, ea]; exact h.s10, fun i hi => by rw [k.1 88 (by decide)]; exact h.c88 i hi, fun i hi => by rw [k.1 89 (by decide)]; exact h.c89 i hi, fun j hj => by rw [e80]; exact h.g7 j hj, by rw [e80]; exact h.l16, by rw [en]; exact h.n4, by rw [e11, en]; exact h.s11, ?_⟩
  rw [en, k.1 81 (by decide)]
  exact h.k3
theorem IX.keep {u w : St} (h : IX u) (k : KX u w) : IX w := by
  have e2 : w.2.2.1 2 = u.2.2.1 2 := k.2.2.1 2 (by decide)
  have en : nX w = nX u := by unfold nX; rw [e2]
  refine ⟨fun d hd t ht => by rw [k.1 _ (by omega)]; exact h.nn d hd t ht, by rw [en]; exact h.n4, by rw [e2, en]; exact h.s2, fun t ht j hj => ?_, by rw [k.2.2.1 0 (by decide)]; exact h.d0⟩
  have h4 := h.n4
  rw [en] at ht
  rw [k.1 _ (by omega)]
  exact h.tT t ht j hj
/-- a cell that is tied -/
def tie1 (j : Nat) : Prop := j = 2 ∨ j = 9 ∨ j = 10 ∨ j = 12 ∨ (22 ≤ j ∧ j < 38) ∨ (76 ≤ j ∧ j ≤ 80)
theorem Tie.keep {u w : St} (h : Tie u) (k1 : ∀ j, tie1 j → w.1 j = u.1 j) (k0 : w.2.2.1 0 = u.2.2.1 0) (k9 : w.2.2.1 1 = u.2.2.1 1) (k10 : w.2.2.1 10 = u.2.2.1 10) : Tie w := by
  have t2 := k1 2 (by unfold tie1; omega)
  have t9 := k1 9 (by unfold tie1; omega)
  have t10 := k1 10 (by unfold tie1; omega)
  have t12 := k1 12 (by unfold tie1; omega)
  have t76 := k1 76 (by unfold tie1; omega)
  have t77 := k1 77 (by unfold tie1; omega)
  have t78 := k1 78 (by unfold tie1; omega)
  have t79 := k1 79 (by unfold tie1; omega)
  have t80 := k1 80 (by unfold tie1; omega)
  exact ⟨fun d hd => by rw [t9, t76]; exact h.there d hd, fun d hd => by rw [t10, t77]; exact h.qual d hd, fun d hd t ht => by rw [k1 (22 + d) (by unfold tie1; omega), t78]; exact h.cnt d hd t ht, fun q hq => by rw [t2, t79]; exact h.msk q hq, fun j hj => by rw [t12, t80]; exact h.grd j hj, fun j hj => by rw [t80]; exact h.gm j hj, by rw [k9, t80]; exact h.num, by rw [k0, k10]; exact h.dep⟩
/-- what an asking call of the class changes: rows of its own -/
abbrev OX (u w : St) : Prop := Same (fun j => j ≠ 8 ∧ j ≠ 18 ∧ j ≠ 20) (fun j => j ≠ 19 ∧ j ≠ 21) (fun j => j ≠ 8 ∧ j ≠ 9) (fun _ => True) u w
theorem OX.km {u w : St} (h : OX u w) : KM u w := Same.weak h (fun j hj => by omega) (fun j hj => by omega) (fun j hj => by omega) (fun _ _ => trivial)
theorem Inv.ox {u w : St} (h : Inv u) (k : OX u w) : Inv w := by
  have e2 : w.2.2.1 2 = u.2.2.1 2 := k.2.2.1 2 (by decide)
  have en : nX w = nX u := by unfold nX; rw [e2]
  refine ⟨⟨fun d hd t ht => by rw [k.1 _ (by omega)]; exact h.x.nn d hd t ht, by rw [en]; exact h.x.n4, by rw [e2, en]; exact h.x.s2, fun t ht j hj => ?_, by rw [k.2.2.1 0 (by decide)]; exact h.x.d0⟩, h.m.keep (OX.km k), h.t.keep (fun j hj => k.1 j (by unfold tie1 at hj; omega)) (k.2.2.1 0 (by decide)) (k.2.2.1 1 (by decide)) (k.2.2.1 10 (by decide))⟩
  rw [en] at ht
  rw [k.1 _ (by omega)]
  exact h.x.tT t ht j hj
theorem OX_meas {u : St} {d : Nat} {x : Int32} : OX u (measF u d x) := ⟨fun j hj => meas_ne hj.1, fun _ _ => rfl, fun _ _ => rfl, fun _ _ => rfl⟩
theorem OX_pick {u : St} {q : Nat} (h0 : 0 ≤ u.2.2.1 0) : OX u (pickF u q) := by
  obtain ⟨-, h1, h2, h3, h4⟩ := pickF_ok u q h0
  generalize pickF u q = w at h1 h2 h3 h4 ⊢
  exact ⟨fun j hj => h1 j hj.1 hj.2.1, fun j hj => h2 j hj.1, fun j hj => h3 j hj.1, fun j _ => by rw [h4]⟩
theorem OX_rank {u : St} {q n : Nat} (h0 : 0 ≤ u.2.2.1 0) : OX u (rankF u q n) := by
  refine Same.tr (OX_pick (q := q) h0) ?_
  obtain ⟨-, h1, h2, h3, h4⟩ := rankF_ok u q n h0
  generalize rankF u q n = w at h1 h2 h3 h4 ⊢
  generalize pickF u q = v at h1 h2 h3 h4 ⊢
  exact ⟨fun j hj => h1 j hj.1 hj.2.2, fun j hj => h2 j hj.2, fun j hj => h3 j hj.2, fun j _ => by rw [h4]⟩
theorem OX_featX {u : St} {q d f : Int32} : OX u (featX u q d f).2 := by
  unfold featX
  split; exact Same.rf; split; exact Same.rf; split; exact Same.rf; exact OX_meas
theorem OX_scoX {u : St} {q d : Int32} {n : Nat} : OX u (scoX u q d n).2 := by
  unfold scoX
  split; exact Same.rf; split; exact Same.rf; exact OX_meas
theorem OX_rnkX {u : St} {q i z : Int32} {n : Nat} (h0 : 0 ≤ u.2.2.1 0) : OX u (rnkX u q i z n).2 := by
  have h1 := OX_pick (u := u) (q := q.toNatClampNeg) h0
  have h2 := OX_rank (u := u) (q := q.toNatClampNeg) (n := n) h0
  unfold rnkX rnkA
  generalize pickF u q.toNatClampNeg = v1 at h1 ⊢
  generalize rankF u q.toNatClampNeg n = v2 at h2 ⊢
  split; exact Same.rf; split; (split; exact h1; exact h1); (split; exact h2; exact h2)
theorem OX_merX {u : St} {q z : Int32} {n : Nat} (h0 : 0 ≤ u.2.2.1 0) : OX u (merX u q z n).2 := by
  have h1 := OX_pick (u := u) (q := q.toNatClampNeg) h0
  have h2 := OX_rank (u := u) (q := q.toNatClampNeg) (n := n) h0
  unfold merX merA
  generalize pickF u q.toNatClampNeg = v1 at h1 ⊢
  generalize rankF u q.toNatClampNeg n = v2 at h2 ⊢
  split; exact Same.rf; split; exact h1; exact h2
theorem OX_rstX {u : St} {i : Int32} {n : Nat} : OX u (rstX u i n).2 := by
  unfold rstX
  split; (split; exact Same.rf; exact OX_meas); exact Same.rf
theorem OX_nodX {u : St} {x y z : Int32} {n : Nat} : OX u (nodX u x y z n).2 := by
  unfold nodX
  repeat' split
  all_goals exact Same.rf
theorem OX_cntX {u : St} {x : Int32} {n : Nat} : OX u (cntX u x n).2 := by
  unfold cntX
  repeat' split
  all_goals exact Same.rf
/-- the asking calls of the reference -/
theorem inv_rankM {u : St} (h : Inv u) (q n : Nat) : Inv (rankM u q (aM u) n) := by
  obtain ⟨-, h1, h2, ⟨h3, h4⟩, h5, h6⟩ := rankM_ok u q (aM u) n h.m.a16 h.m.c88
  have h6 := h6 h.m.c89
  generalize rankM u q (aM u) n = w at h1 h2 h3 h4 h5 h6 ⊢
  have e10 : w.2.2.1 10 = u.2.2.1 10 := h3 10 (by decide)
  have e11 : w.2.2.1 11 = u.2.2.1 11 := h3 11 (by decide)
  have ea : aM w = aM u := by unfold aM; rw [e10]
  have en : nM w = nM u := by unfold nM; rw [e11]
  have e80 := h1 80 (by decide) (by decide)
  refine ⟨h.x.keep ⟨fun j hj => h1 j (by omega) (by omega), fun j hj => by rw [h2], fun j hj => h3 j (by omega), fun j hj => by rw [h4]⟩, ⟨by rw [ea]; exact h.m.a16, by rw [e10, ea]; exact h.m.s10, h5, h6, fun j hj => by rw [e80]; exact h.m.g7 j hj, by rw [e80]; exact h.m.l16, by rw [en]; exact h.m.n4, by rw [e11, en]; exact h.m.s11, ?_⟩, h.t.keep (fun j hj => h1 j (by unfold tie1 at hj; omega) (by unfold tie1 at hj; omega)) (h3 0 (by decide)) (h3 1 (by decide)) e10⟩
  rw [en, h1 81 (by decide) (by decide)]
  exact h.m.k3
theorem inv_featM {u : St} (h : Inv u) (q d f : Int32) : Inv (featM u q d f).2 := by
  unfold featM
  repeat' split
  all_goals exact h
theorem inv_scoM {u : St} (h : Inv u) (q d : Int32) (n : Nat) : Inv (scoM u q d n).2 := by
  unfold scoM
  repeat' split
  all_goals exact h
theorem inv_rnkM {u : St} (h : Inv u) (q i z : Int32) (n : Nat) : Inv (rnkM u q i z (aM u) n).2 := by
  have h1 := inv_rankM h q.toNatClampNeg n
  unfold rnkM
  generalize rankM u q.toNatClampNeg (aM u) n = w at h1 ⊢
  repeat' split
  all_goals first | exact h | exact h1
theorem inv_merM {u : St} (h : Inv u) (q z : Int32) (n : Nat) : Inv (merM u q z (aM u) n).2 := by
  have h1 := inv_rankM h q.toNatClampNeg n
  unfold merM
  generalize rankM u q.toNatClampNeg (aM u) n = w at h1 ⊢
  split
  · exact h
  · exact h1
theorem inv_nodM {u : St} (h : Inv u) (x y z : Int32) (n : Nat) : Inv (nodM u x y z n).2 := by
  unfold nodM
  repeat' split
  all_goals exact h
theorem inv_cntM {u : St} (h : Inv u) (x : Int32) (n : Nat) : Inv (cntM u x n).2 := by
  unfold cntM
  repeat' split
  all_goals exact h
