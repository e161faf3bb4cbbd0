/-! the stronger invariant: bounds and trees too -/
def Frs (u : St) : Prop := nX u = nM u ∧ ∀ t, t < nX u → treeR u u t
def Jnv (u : St) : Prop := Inv u ∧ Bnd u ∧ Frs u
theorem Jnv.x {u : St} (h : Jnv u) : IX u := h.1.x
theorem Jnv.m {u : St} (h : Jnv u) : IM u := h.1.m
theorem Jnv.t {u : St} (h : Jnv u) : Tie u := h.1.t
def PT9 (j : Nat) : Prop := (63 ≤ j ∧ j < 71) ∨ (81 ≤ j ∧ j ≤ 83)
def PB9 (j : Nat) : Prop := j = 10 ∨ (22 ≤ j ∧ j < 38)
def QB9 (j : Nat) : Prop := (71 ≤ j ∧ j < 75) ∨ j = 84
def RB9 (j : Nat) : Prop := j = 2 ∨ j = 11
theorem Bnd.keep {u w : St} (h : Bnd u) (k : ∀ j, PB9 j → w.1 j = u.1 j) : Bnd w := ⟨fun d hd t ht => by rw [k (22 + d) (Or.inr ⟨by omega, by omega⟩)]; exact h.1 d hd t ht, fun d hd => by rw [k 10 (Or.inl rfl)]; exact h.2 d hd⟩
theorem Frs.keep {u w : St} (h : Frs u) (h4 : nX u ≤ 4) (k1 : ∀ j, PT9 j → w.1 j = u.1 j) (k2 : ∀ j, QB9 j → w.2.1 j = u.2.1 j) (k3 : ∀ j, RB9 j → w.2.2.1 j = u.2.2.1 j) : Frs w := by
  have ex : nX w = nX u := by unfold nX; rw [k3 2 (Or.inl rfl)]
  have em : nM w = nM u := by unfold nM; rw [k3 11 (Or.inr rfl)]
  refine ⟨by rw [ex, em]; exact h.1, fun t ht => ?_⟩
  rw [ex] at ht
  refine (h.2 t ht).mv (k1 _ (Or.inl ⟨by omega, by omega⟩)) (k1 _ (Or.inl ⟨by omega, by omega⟩)) (k2 _ (Or.inl ⟨by omega, by omega⟩)) (fun j hj => ⟨?_, ?_, ?_, ?_⟩)
  · rw [k1 81 (Or.inr ⟨by omega, by omega⟩)]
  · rw [k1 82 (Or.inr ⟨by omega, by omega⟩)]
  · rw [k1 83 (Or.inr ⟨by omega, by omega⟩)]
  · rw [k2 84 (Or.inr rfl)]
abbrev SJ (u w : St) : Prop := Same (fun j => PB9 j ∨ PT9 j) QB9 RB9 (fun _ => False) u w
abbrev SK (u w : St) : Prop := Same PT9 QB9 RB9 (fun _ => False) u w
theorem Jnv.kp {u w : St} (h : Jnv u) (hI : Inv w) (k : SJ u w) : Jnv w := ⟨hI, h.2.1.keep (fun j hj => k.1 j (Or.inl hj)), h.2.2.keep h.x.n4 (fun j hj => k.1 j (Or.inr hj)) k.2.1 k.2.2.1⟩
theorem Jnv.kp2 {u w : St} (h : Jnv u) (hI : Inv w) (hB : Bnd w) (k : SK u w) : Jnv w := ⟨hI, hB, h.2.2.keep h.x.n4 k.1 k.2.1 k.2.2.1⟩
theorem Jnv.ox {u w : St} (h : Jnv u) (k : OX u w) : Jnv w := h.kp (h.1.ox k) (Same.weak k (fun j hj => by unfold PB9 PT9 at hj; omega) (fun j hj => by unfold QB9 at hj; omega) (fun j hj => by unfold RB9 at hj; omega) (fun _ q => q.elim))
theorem jnv_rankM {u : St} (h : Jnv u) (q n : Nat) : Jnv (rankM u q (aM u) n) := by
  refine h.kp (inv_rankM h.1 q n) ?_
  obtain ⟨-, h1, h2, ⟨h3, h4⟩, -⟩ := rankM_ok u q (aM u) n h.m.a16 h.m.c88
  exact ⟨fun j hj => h1 j (by unfold PB9 PT9 at hj; omega) (by unfold PB9 PT9 at hj; omega), fun j _ => by rw [h2], fun j hj => h3 j (by unfold RB9 at hj; omega), fun _ q => q.elim⟩
theorem jnv_featM {u : St} (h : Jnv u) (q d f : Int32) : Jnv (featM u q d f).2 := by
  unfold featM
  repeat' split
  all_goals exact h
theorem jnv_scoM {u : St} (h : Jnv u) (q d : Int32) (n : Nat) : Jnv (scoM u q d n).2 := by
  unfold scoM
  repeat' split
  all_goals exact h
theorem jnv_rnkM {u : St} (h : Jnv u) (q i z : Int32) (n : Nat) : Jnv (rnkM u q i z (aM u) n).2 := by
  have h1 := jnv_rankM h q.toNatClampNeg n
  unfold rnkM
  generalize rankM u q.toNatClampNeg (aM u) n = w at h1 ⊢
  repeat' split
  all_goals first | exact h | exact h1
theorem jnv_merM {u : St} (h : Jnv u) (q z : Int32) (n : Nat) : Jnv (merM u q z (aM u) n).2 := by
  have h1 := jnv_rankM h q.toNatClampNeg n
  unfold merM
  generalize rankM u q.toNatClampNeg (aM u) n = w at h1 ⊢
  split
  · exact h
  · exact h1
theorem jnv_nodM {u : St} (h : Jnv u) (x y z : Int32) (n : Nat) : Jnv (nodM u x y z n).2 := by
  unfold nodM
  repeat' split
  all_goals exact h
theorem jnv_cntM {u : St} (h : Jnv u) (x : Int32) (n : Nat) : Jnv (cntM u x n).2 := by
  unfold cntM
  repeat' split
  all_goals exact h
/-! what the changing calls leave alone -/
theorem same_sI {P Q R S : Nat → Prop} {u : St} {k i : Nat} {x : Int32} (h : ¬ P k) : Same P Q R S u (sI u k i x) := ⟨fun j hj => sI_ne (fun e => h (e ▸ hj)), fun _ _ => rfl, fun _ _ => rfl, fun _ _ => rfl⟩
theorem same_sF {P Q R S : Nat → Prop} {u : St} {k : Nat} {x : Int32} (h : ¬ R k) : Same P Q R S u (sF u k x) := ⟨fun _ _ => rfl, fun _ _ => rfl, fun j hj => sF_ne (fun e => h (e ▸ hj)), fun _ _ => rfl⟩
theorem same_fill {P Q R S : Nat → Prop} {u : St} {k n : Nat} {x : Int32} (h : ¬ P k) : Same P Q R S u (fillF u k x n) := ⟨fun j hj => fill_ne (fun e => h (e ▸ hj)), fun _ _ => rfl, fun _ _ => rfl, fun _ _ => rfl⟩
theorem same_clr {P Q R S : Nat → Prop} {u : St} {b n : Nat} (h : ¬ P 78) : Same P Q R S u (clrF u b n) := ⟨fun j hj => clrF_ne (fun e => h (e ▸ hj)) n, fun _ _ => by rw [clrF_2], fun _ _ => by rw [clrF_2], fun _ _ => by rw [clrF_2]⟩
theorem pb_no {k : Nat} (h1 : k ≠ 10) (h2 : k < 22 ∨ 38 ≤ k) (h3 : k < 63 ∨ 71 ≤ k) (h4 : k < 81 ∨ 83 < k) : ¬ (PB9 k ∨ PT9 k) := by unfold PB9 PT9; omega
theorem sj_docM {u : St} {d q : Int32} : SJ u (docM u d q).2 := by
  unfold docM
  split; exact Same.rf; split; exact Same.rf
  exact Same.tr (Same.tr (same_sI (pb_no (by decide) (by omega) (by omega) (by omega))) (same_sI (pb_no (by decide) (by omega) (by omega) (by omega)))) (same_clr (pb_no (by decide) (by omega) (by omega) (by omega)))
theorem sj_remM {u : St} {d : Int32} : SJ u (remM u d).2 := by
  unfold remM
  split; exact Same.rf
  exact same_sI (pb_no (by decide) (by omega) (by omega) (by omega))
theorem sj_remX {u : St} {d : Int32} : SJ u (remX u d).2 := by
  unfold remX
  split; exact Same.rf
  exact same_sI (pb_no (by decide) (by omega) (by omega) (by omega))
theorem sj_termM {u : St} {d k x : Int32} : SJ u (termM u d k x).2 := by
  unfold termM
  split; exact Same.rf; split; exact Same.rf; split; exact Same.rf
  exact same_sI (pb_no (by decide) (by omega) (by omega) (by omega))
theorem sj_qryM {u : St} {q x : Int32} : SJ u (qryM u q x).2 := by
  unfold qryM
  split; exact Same.rf; split; exact Same.rf
  exact same_sI (pb_no (by decide) (by omega) (by omega) (by omega))
theorem sj_qryX {u : St} {q x : Int32} : SJ u (qryX u q x).2 := by
  unfold qryX
  split; exact Same.rf; split; exact Same.rf
  exact same_sI (pb_no (by decide) (by omega) (by omega) (by omega))
theorem sj_depX {u : St} {n : Int32} : SJ u (depX u n).2 := by
  unfold depX
  split; exact Same.rf; split
  · exact same_sF (by unfold RB9; omega)
  · exact Same.rf
theorem sj_depM {u : St} {n : Int32} : SJ u (depM u n).2 := by
  unfold depM
  split; exact Same.rf; split
  · exact same_sF (by unfold RB9; omega)
  · exact Same.rf
theorem sj_judM {u : St} {q d x : Int32} : SJ u (judM u q d x).2 := by
  have h : ∀ i, SJ u (sI u 80 i x) := fun i => same_sI (pb_no (by decide) (by omega) (by omega) (by omega))
  unfold judM
  repeat' split
  all_goals first | exact Same.rf | exact h _
theorem sj_jset {u : St} {j : Nat} {x : Int32} : SJ u (jsetF u j x) := by
  have r1 : ¬ RB9 1 := by unfold RB9; omega
  have h1 : SJ u (jset1 u j) := by
    unfold jset1
    split; exact Same.rf; exact same_sF r1
  have h2 : SJ (jset1 u j) (jset2 (jset1 u j) x) := by
    unfold jset2
    split; exact Same.rf; exact same_sF r1
  unfold jsetF
  exact Same.tr (Same.tr h1 h2) (same_sI (pb_no (by decide) (by omega) (by omega) (by omega)))
theorem sj_judX {u : St} {q d x : Int32} : SJ u (judX u q d x).2 := by
  unfold judX
  repeat' split
  all_goals first | exact Same.rf | exact sj_jset
theorem sk_docX {u : St} {d q : Int32} : SK u (docX u d q).2 := by
  unfold docX
  rw [wi15]
  by_cases c1 : inF d 16 = 0
  · rw [if_pos c1]; exact Same.rf
  · rw [if_neg c1]
    split; exact Same.rf
    obtain ⟨i, hi, rfl⟩ := in_ixN 16 c1
    rw [nI_clamp (by omega)]
    exact Same.tr (Same.tr (same_sI (by unfold PT9; omega)) (same_sI (by unfold PT9; omega))) (same_fill (by unfold PT9; omega))
theorem bnd_docX {u : St} (h : Bnd u) (d q : Int32) : Bnd (docX u d q).2 := by
  unfold docX
  rw [wi15, wi15]
  by_cases c1 : inF d 16 = 0
  · rw [if_pos c1]; exact h
  · rw [if_neg c1]
    by_cases c2 : inF q 16 = 0
    · rw [if_pos c2]; exact h
    · rw [if_neg c2]
      obtain ⟨i, hi, rfl⟩ := in_ixN 16 c1
      obtain ⟨z, hz, rfl⟩ := in_ixN 16 c2
      rw [nI_clamp (by omega)]
      show Bnd (fillF (sI (sI u 9 i 1) 10 i (nI z)) (22 + i) 0 12)
      refine ⟨fun d hd t ht => ?_, fun d hd => ?_⟩
      · by_cases e : d = i
        · subst e; rw [fill_in ht]; exact ⟨0, by omega, rfl⟩
        · rw [fill_ne (by omega), sI_ne (by omega), sI_ne (by omega)]; exact h.1 d hd t ht
      · rw [fill_ne (by omega), sI_eq, sI_ne (by decide)]
        by_cases e : d = i
        · rw [e, upd_at]; exact ⟨z, by omega, rfl⟩
        · rw [upd_ne e]; exact h.2 d hd
theorem sk_termX {u : St} {d k x : Int32} : SK u (termX u d k x).2 := by
  unfold termX
  by_cases c : holdsF u d = 0
  · rw [if_pos c]; exact Same.rf
  · rw [if_neg c]
    obtain ⟨i, hi, rfl⟩ := vp_in_of (holds_in c) (by decide)
    split; exact Same.rf; split; exact Same.rf
    rw [nI_clamp (n := i) (by omega)]
    exact same_sI (by unfold PT9; omega)
theorem bnd_termX {u : St} (h : Bnd u) (d k x : Int32) : Bnd (termX u d k x).2 := by
  unfold termX
  rw [wi11, wi15]
  by_cases c : holdsF u d = 0
  · rw [if_pos c]; exact h
  · rw [if_neg c]
    obtain ⟨i, hi, rfl⟩ := vp_in_of (holds_in c) (by decide)
    by_cases c2 : inF k 12 = 0
    · rw [if_pos c2]; exact h
    · rw [if_neg c2]
      by_cases c3 : inF x 16 = 0
      · rw [if_pos c3]; exact h
      · rw [if_neg c3]
        obtain ⟨z, hz, rfl⟩ := in_ixN 16 c3
        rw [nI_clamp (n := i) (by omega)]
        show Bnd (sI u (22 + i) k.toNatClampNeg (nI z))
        refine ⟨fun d hd t ht => ?_, fun d hd => by rw [sI_ne (by omega)]; exact h.2 d hd⟩
        by_cases e : d = i
        · subst e
          rw [sI_eq]
          unfold upd
          split
          · exact ⟨z, by omega, rfl⟩
          · exact h.1 d hd t ht
        · rw [sI_ne (by omega)]; exact h.1 d hd t ht
theorem jnv_doc {u : St} (h : Jnv u) (d q : Int32) : Jnv (docM (docX u d q).2 d q).2 ∧ (docX u d q).1 = (docM (docX u d q).2 d q).1 :=
  ⟨h.kp2 (inv_doc h.1 d q).1 ((bnd_docX h.2.1 d q).keep (fun j hj => sj_docM.1 j (Or.inl hj))) (Same.tr sk_docX (Same.weak sj_docM (fun j hj => Or.inr hj) (fun _ q => q) (fun _ q => q) (fun _ q => q))), (inv_doc h.1 d q).2⟩
theorem jnv_term {u : St} (h : Jnv u) (d k x : Int32) : Jnv (termM (termX u d k x).2 d k x).2 ∧ (termX u d k x).1 = (termM (termX u d k x).2 d k x).1 :=
  ⟨h.kp2 (inv_term h.1 d k x).1 ((bnd_termX h.2.1 d k x).keep (fun j hj => sj_termM.1 j (Or.inl hj))) (Same.tr sk_termX (Same.weak sj_termM (fun j hj => Or.inr hj) (fun _ q => q) (fun _ q => q) (fun _ q => q))), (inv_term h.1 d k x).2⟩
theorem jnv_rem {u : St} (h : Jnv u) (d : Int32) : Jnv (remM (remX u d).2 d).2 ∧ (remX u d).1 = (remM (remX u d).2 d).1 := ⟨h.kp (inv_rem h.1 d).1 (Same.tr sj_remX sj_remM), (inv_rem h.1 d).2⟩
theorem jnv_qry {u : St} (h : Jnv u) (q x : Int32) : Jnv (qryM (qryX u q x).2 q x).2 ∧ (qryX u q x).1 = (qryM (qryX u q x).2 q x).1 := ⟨h.kp (inv_qry h.1 q x).1 (Same.tr sj_qryX sj_qryM), (inv_qry h.1 q x).2⟩
theorem jnv_jud {u : St} (h : Jnv u) (q d x : Int32) : Jnv (judM (judX u q d x).2 q d x).2 ∧ (judX u q d x).1 = (judM (judX u q d x).2 q d x).1 := ⟨h.kp (inv_jud h.1 q d x).1 (Same.tr sj_judX sj_judM), (inv_jud h.1 q d x).2⟩
theorem jnv_dep {u : St} (h : Jnv u) (n : Int32) : Jnv (depM (depX u n).2 n).2 ∧ (depX u n).1 = (depM (depX u n).2 n).1 := ⟨h.kp (inv_dep h.1 n).1 (Same.tr sj_depX sj_depM), (inv_dep h.1 n).2⟩
/-! train -/
theorem train_cases (x z y : Int32) : (∀ u v : St, trainX u x z y = (-1, u) ∧ trainM v x z y = (-1, v)) ∨ (∃ a b : Nat, a ≤ 4 ∧ b ≤ 2 ∧ 1 ≤ y ∧ z = nI b ∧ ∀ u v : St, trainX u x z y = (sumF (fun t => cntF (fun k => isLfF ((tnS u a b y).1 (63 + t) k)) 7) (tnN u a), tnS u a b y) ∧ trainM v x z y = (eqcF ((trST v a z y).1 81) 1 (trNN v a * 7), trST v a z y)) := by
  unfold trainX trainM
  rw [wi4, show withinF z 2 = inF z 3 from wi_eq rfl]
  by_cases c1 : inF x 5 = 0
  · refine Or.inl (fun u v => ⟨by rw [if_pos c1], ?_⟩)
    by_cases d1 : x < 0
    · rw [if_pos d1]
    · rw [if_neg d1, if_pos]
      unfold inF at c1
      rw [if_neg d1] at c1
      by_cases d2 : 5 ≤ x
      · rw [Int32.lt_iff_toInt_lt]
        rw [Int32.le_iff_toInt_le] at d2
        exact d2
      · rw [if_neg d2] at c1; exact absurd c1 (by decide)
  · obtain ⟨a, ha, rfl⟩ := in_ixN 5 c1
    have d1 : ¬ nI a < 0 := gez (nI_ge0 (by omega))
    have d2 : ¬ 4 < nI a := fun q => absurd ((nI_ltI (a := 4) (b := a) (by omega) (by omega)).mp q) (by omega)
    by_cases c2 : inF z 3 = 0
    · refine Or.inl (fun u v => ⟨by rw [if_neg c1, if_pos c2], ?_⟩)
      by_cases d3 : z < 0
      · rw [if_neg d1, if_neg d2, if_pos d3]
      · rw [if_neg d1, if_neg d2, if_neg d3, if_pos]
        unfold inF at c2
        rw [if_neg d3] at c2
        by_cases d4 : 3 ≤ z
        · rw [Int32.lt_iff_toInt_lt]
          rw [Int32.le_iff_toInt_le] at d4
          exact d4
        · rw [if_neg d4] at c2; exact absurd c2 (by decide)
    · obtain ⟨b, hb, rfl⟩ := in_ixN 3 c2
      have d3 : ¬ nI b < 0 := gez (nI_ge0 (by omega))
      have d4 : ¬ 2 < nI b := fun q => absurd ((nI_ltI (a := 2) (b := b) (by omega) (by omega)).mp q) (by omega)
      by_cases c3 : y < 1
      · refine Or.inl (fun u v => ⟨by rw [if_neg c1, if_neg c2, if_pos c3], by rw [if_neg d1, if_neg d2, if_neg d3, if_neg d4, if_pos c3]⟩)
      · by_cases c4 : 8 < y
        · refine Or.inl (fun u v => ⟨by rw [if_neg c1, if_neg c2, if_neg c3, if_pos c4], ?_⟩)
          rw [if_neg d1, if_neg d2, if_neg d3, if_neg d4, if_neg c3, if_neg]
          rw [Int32.le_iff_toInt_le]
          rw [Int32.lt_iff_toInt_lt] at c4
          omega
        · refine Or.inr ⟨a, b, by omega, by omega, le_nlt c3, rfl, fun u v => ⟨?_, ?_⟩⟩
          · rw [if_neg c1, if_neg c2, if_neg c3, if_neg c4, nI_clamp (by omega), nI_clamp (by omega)]
          · rw [if_neg d1, if_neg d2, if_neg d3, if_neg d4, if_neg c3, if_pos (le_nlt c4), nI_clamp (by omega)]
theorem eqc_add {f : Nat → Int32} {x : Int32} {b : Nat} : ∀ n, eqcF f x (b + n) = eqcF f x b + cntF (fun j => if f (b + j) = x then 1 else 0) n := by
  intro n
  induction n with
  | zero => exact (Int32.add_zero _).symm
  | succ n ih =>
    show (if f (b + n) = x then eqcF f x (b + n) + 1 else eqcF f x (b + n)) = _
    simp only [cntF]
    rw [ih]
    by_cases c : f (b + n) = x
    · simp [c, Int32.add_assoc]
    · simp [c]
theorem cnt_c {f g : Nat → Int32} : ∀ n, (∀ i, i < n → f i = g i) → cntF f n = cntF g n := by
  intro n
  induction n with
  | zero => intro _; rfl
  | succ n ih => intro h; simp only [cntF]; rw [h n (by omega), ih (fun i hi => h i (by omega))]
theorem leaves_eq {w v : St} : ∀ n, (∀ t, t < n → treeR w v t) → sumF (fun t => cntF (fun k => isLfF (w.1 (63 + t) k)) 7) n = eqcF (v.1 81) 1 (n * 7) := by
  intro n
  induction n with
  | zero => intro _; rfl
  | succ n ih =>
    intro h
    show sumF (fun t => cntF (fun k => isLfF (w.1 (63 + t) k)) 7) n + cntF (fun k => isLfF (w.1 (63 + n) k)) 7 = _
    rw [ih (fun t ht => h t (by omega)), show (n + 1) * 7 = n * 7 + 7 by omega, eqc_add]
    congr 1
    refine cnt_c 7 (fun j hj => ?_)
    unfold isLfF
    rcases (h n (by omega)).1 j hj with z | z | ⟨f, hf, z1, z2, -⟩
    · rw [z.1, z.2]; decide
    · rw [z.1, z.2.2.1]; decide
    · rw [z1, z2, if_neg (fun q => absurd (show nI f < 0 by rw [q]; decide) (gez (nI_ge0 (by omega)))), if_neg (by decide)]
theorem jnv_train2 {u : St} (h : Jnv u) (x z y : Int32) : Jnv (trainM (trainX u x z y).2 x z y).2 ∧ (trainX u x z y).1 = (trainM (trainX u x z y).2 x z y).1 := by
  have hI := inv_train h.1 x z y
  have hX := trainX_ok h.1 x z y
  rcases train_cases x z y with c | ⟨a, b, ha, hb, hy, hz, c⟩
  · rw [(c u u).1, (c u u).2]
    exact ⟨h, rfl⟩
  · have e1 : (trainX u x z y).2 = tnS u a b y := by rw [(c u u).1]
    have e2 : (trainX u x z y).1 = sumF (fun t => cntF (fun k => isLfF ((tnS u a b y).1 (63 + t) k)) 7) (tnN u a) := by rw [(c u u).1]
    have e3 : (trainM (tnS u a b y) x z y).2 = trST (tnS u a b y) a z y := by rw [(c u (tnS u a b y)).2]
    have e4 : (trainM (tnS u a b y) x z y).1 = eqcF ((trST (tnS u a b y) a z y).1 81) 1 (trNN (tnS u a b y) a * 7) := by rw [(c u (tnS u a b y)).2]
    rw [e1, e3] at hI
    rw [e1] at hX
    rw [e1, e2, e3, e4]
    obtain ⟨km, hx, -⟩ := hX
    clear e1 e2 e3 e4
    subst hz
    obtain ⟨en, hR⟩ := train_R h.1 h.2.1 km ha hb hy
    obtain ⟨s1, f2, -⟩ := tnS_ok (u := u) (a := a) (i := b) (y := y) ha
    have hn4 := tn_le u ha
    have hz2 : nI b ≤ 2 := (nI_leI (a := b) (b := 2) (by omega) (by omega)).mpr hb
    obtain ⟨s2, f11, -⟩ := trST_ok (u := tnS u a b y) (a := a) (z := nI b) (y := y) hz2
    rw [← en] at f11 ⊢
    generalize tnN u a = n at hR f2 f11 hn4 ⊢
    generalize trST (tnS u a b y) a (nI b) y = v at hI hR s2 f11 ⊢
    generalize tnS u a b y = w at hR s1 s2 f2 ⊢
    refine ⟨⟨hI, ?_, ?_⟩, leaves_eq n hR⟩
    · exact h.2.1.keep (fun j hj => by rw [s2.1 j (by unfold PB9 at hj; omega), s1.1 j (by unfold PB9 at hj; omega)])
    · have ex : nX v = n := by unfold nX; rw [s2.2.2.1 2 (by omega), f2, nI_clamp (by omega)]
      have em : nM v = n := by unfold nM; rw [f11, nI_clamp (by omega)]
      refine ⟨by rw [ex, em], fun t ht => ?_⟩
      rw [ex] at ht
      exact (hR t ht).mv (s2.1 _ (by omega)) (s2.1 _ (by omega)) (s2.2.1 _ (by omega)) (fun j _ => ⟨rfl, rfl, rfl, rfl⟩)
theorem jnv_train {u : St} (h : Jnv u) (x z y : Int32) : Jnv (trainM (trainX u x z y).2 x z y).2 := (jnv_train2 h x z y).1
theorem ans_train {u : St} (h : Jnv u) (x z y : Int32) : (trainX u x z y).1 = (trainM (trainX u x z y).2 x z y).1 := (jnv_train2 h x z y).2
theorem jnv_u0 : Jnv u0 := by
  refine ⟨inv_u0, ⟨fun d hd t ht => ⟨0, by omega, ?_⟩, fun d hd => ⟨0, by omega, rfl⟩⟩, rfl, fun t ht => absurd ht (by rw [show nX u0 = 0 from rfl]; omega)⟩
  show (if 22 + d = 12 then _ else if 22 + d = 80 then _ else _ : Nat → Int32) t = nI 0
  rw [if_neg (by omega), if_neg (by omega)]
  rfl
