/-! answers that rest on the trees: node, score, rest -/
theorem wi_n {x : Int32} {n : Nat} (hn : n ≤ 16) : withinF x (nI n - 1) = inF x (nI n) := wi_eq (by
  rw [show nI n - 1 = nI n - nI 1 from rfl, pk_sub_toInt (a := n) (b := 1) (by omega) (by omega), nI_toInt (by omega)]
  omega)
theorem nodX_2 {u : St} {x y z : Int32} {n : Nat} : (nodX u x y z n).2 = u := by
  unfold nodX
  repeat' split
  all_goals rfl
theorem ans_node {u : St} (h : Jnv u) (x y z : Int32) : (nodX u x y z (nX u)).1 = (nodM (nodX u x y z (nX u)).2 x y z (nM (nodX u x y z (nX u)).2)).1 := by
  rw [nodX_2, ← h.2.2.1]
  have h4 := h.x.n4
  have hT := h.2.2.2
  generalize nX u = n at h4 hT ⊢
  unfold nodX nodM
  rw [wi_n (by omega), show withinF y 6 = inF y 7 from wi_eq rfl]
  by_cases c1 : inF x (nI n) = 0
  · rw [if_pos c1, if_pos c1]
  · rw [if_neg c1, if_neg c1]
    by_cases c2 : inF y 7 = 0
    · rw [if_pos c2, if_pos c2]
    · rw [if_neg c2, if_neg c2]
      obtain ⟨t, ht, rfl⟩ := in_ixN n c1 rfl (by omega)
      obtain ⟨j, hj, rfl⟩ := in_ixN 7 c2
      rw [nI_clamp (n := t) (by omega), nI_clamp (n := j) (by omega)]
      have hz : ¬ inF z 3 = 0 → z = 0 ∨ z = 1 ∨ z = 2 := fun q => by
        obtain ⟨i, hi, rfl⟩ := in_ixN 3 q
        rcases (show i = 0 ∨ i = 1 ∨ i = 2 by omega) with rfl | rfl | rfl
        · exact Or.inl rfl
        · exact Or.inr (Or.inl rfl)
        · exact Or.inr (Or.inr rfl)
      have hz0 : inF z 3 = 0 → ¬ z = 0 ∧ ¬ z = 1 ∧ ¬ z = 2 := fun q => by
        refine ⟨fun e => ?_, fun e => ?_, fun e => ?_⟩
        · rw [e] at q; exact absurd q (by decide)
        · rw [e] at q; exact absurd q (by decide)
        · rw [e] at q; exact absurd q (by decide)
      rcases (hT t ht).1 j hj with ⟨e1, e2⟩ | ⟨e1, e2, e3, e4⟩ | ⟨f, hf, e1, e2, e3, e4⟩
      · rw [e1, e2, if_neg (show ¬ isAbF (-2) = 0 by decide)]
        split
        · rfl
        · rw [if_pos rfl]
      · rw [e1, e2, e3, e4, if_pos (show isAbF (-1) = 0 by decide), if_neg (show ¬ isLfF (-1) = 0 by decide), if_neg (show ¬ (1 : Int32) = 0 by decide), if_pos (show (1 : Int32) = 1 from rfl), if_pos (show (1 : Int32) = 1 from rfl)]
        by_cases c3 : inF z 3 = 0
        · obtain ⟨a0, a1, a2⟩ := hz0 c3
          rw [if_pos c3, if_neg a0, if_neg a1, if_neg a2]
        · rw [if_neg c3]
          rcases hz c3 with rfl | rfl | rfl
          · rfl
          · rfl
          · rfl
      · have ab : isAbF (nI f) = 0 := by
          unfold isAbF
          rw [if_neg (fun q => absurd (show nI f < 0 by rw [q]; decide) (gez (nI_ge0 (by omega))))]
        have lf : isLfF (nI f) = 0 := by
          unfold isLfF
          rw [if_neg (fun q => absurd (show nI f < 0 by rw [q]; decide) (gez (nI_ge0 (by omega))))]
        rw [e1, e2, e3, e4, if_pos ab, if_pos lf, if_neg (show ¬ (2 : Int32) = 0 by decide), if_neg (show ¬ (2 : Int32) = 1 by decide), if_neg (show ¬ (2 : Int32) = 1 by decide)]
        by_cases c3 : inF z 3 = 0
        · obtain ⟨a0, a1, a2⟩ := hz0 c3
          rw [if_pos c3, if_neg a0, if_neg a1, if_neg a2]
        · rw [if_neg c3]
          rcases hz c3 with rfl | rfl | rfl
          · rfl
          · rfl
          · rfl
theorem walkM_2 {u : St} {q d t : Nat} : walkM u q d t 2 0 = (if u.1 81 (t * 7 + 0) = 2 then (if u.1 81 (t * 7 + (if ftM u q d (u.1 82 (t * 7 + 0)) ≤ u.1 83 (t * 7 + 0) then 2 * 0 + 1 else 2 * 0 + 2)) = 2 then (if ftM u q d (u.1 82 (t * 7 + (if ftM u q d (u.1 82 (t * 7 + 0)) ≤ u.1 83 (t * 7 + 0) then 2 * 0 + 1 else 2 * 0 + 2))) ≤ u.1 83 (t * 7 + (if ftM u q d (u.1 82 (t * 7 + 0)) ≤ u.1 83 (t * 7 + 0) then 2 * 0 + 1 else 2 * 0 + 2)) then 2 * (if ftM u q d (u.1 82 (t * 7 + 0)) ≤ u.1 83 (t * 7 + 0) then 2 * 0 + 1 else 2 * 0 + 2) + 1 else 2 * (if ftM u q d (u.1 82 (t * 7 + 0)) ≤ u.1 83 (t * 7 + 0) then 2 * 0 + 1 else 2 * 0 + 2) + 2) else (if ftM u q d (u.1 82 (t * 7 + 0)) ≤ u.1 83 (t * 7 + 0) then 2 * 0 + 1 else 2 * 0 + 2)) else 0) := rfl
/-- both walks come to the same leaf -/
theorem walk_R {w v : St} {t q d : Nat} {x : Nat → Int32} (h : treeR w v t) (hk3 : ∀ j, j < 7 → v.1 81 (t * 7 + j) = 2 → j < 3) (hx : ∀ f, f < 5 → x f = ftM v q d (nI f)) : walkN (w.1 (63 + t)) (w.1 (67 + t)) x 2 0 = walkM v q d t 2 0 ∧ w.2.1 (71 + t) (walkN (w.1 (63 + t)) (w.1 (67 + t)) x 2 0) = v.2.1 84 (t * 7 + walkM v q d t 2 0) := by
  have sg : ∀ j, j < 7 → (w.1 (63 + t) j < 0 ↔ ¬ v.1 81 (t * 7 + j) = 2) := fun j hj => by
    rcases h.1 j hj with ⟨e1, e2⟩ | ⟨e1, e2, e3, e4⟩ | ⟨f, hf, e1, e2, e3, e4⟩
    · rw [e1, e2]; decide
    · rw [e1, e3]; decide
    · rw [e1, e2]; exact ⟨fun q => absurd q (gez (nI_ge0 (by omega))), fun q => absurd rfl q⟩
  have st : ∀ j, j < 7 → v.1 81 (t * 7 + j) = 2 → stepN (w.1 (67 + t)) x j (w.1 (63 + t) j).toNatClampNeg = (if ftM v q d (v.1 82 (t * 7 + j)) ≤ v.1 83 (t * 7 + j) then 2 * j + 1 else 2 * j + 2) := fun j hj hk => by
    rcases h.1 j hj with ⟨e1, e2⟩ | ⟨e1, e2, e3, e4⟩ | ⟨f, hf, e1, e2, e3, e4⟩
    · rw [hk] at e2; exact absurd e2 (by decide)
    · rw [hk] at e3; exact absurd e3 (by decide)
    · unfold stepN
      rw [e1, nI_clamp (by omega), e4, hx f hf, e3]
      by_cases a : ftM v q d (nI f) ≤ v.1 83 (t * 7 + j)
      · rw [if_pos a, if_neg (fun z => by rw [Int32.lt_iff_toInt_lt] at z; rw [Int32.le_iff_toInt_le] at a; omega)]
      · rw [if_neg a, if_pos (by rw [Int32.lt_iff_toInt_lt]; rw [Int32.le_iff_toInt_le] at a; omega)]
  have val : ∀ j, j < 7 → (j = 0 ∨ v.1 81 (t * 7 + (j - 1) / 2) = 2) → ¬ v.1 81 (t * 7 + j) = 2 → w.2.1 (71 + t) j = v.2.1 84 (t * 7 + j) := fun j hj hp hk => by
    rcases h.1 j hj with ⟨e1, e2⟩ | ⟨e1, e2, e3, e4⟩ | ⟨f, hf, e1, e2, e3, e4⟩
    · exact absurd e2 (h.2 j hj hp)
    · exact e4
    · exact absurd e2 hk
  rw [walk_2, walkM_2]
  by_cases c0 : v.1 81 (t * 7 + 0) = 2
  · have n0 : ¬ w.1 (63 + t) 0 < 0 := fun z => (sg 0 (by omega)).mp z c0
    rw [if_neg n0, if_pos c0, st 0 (by omega) c0]
    have hb : (if ftM v q d (v.1 82 (t * 7 + 0)) ≤ v.1 83 (t * 7 + 0) then 2 * 0 + 1 else 2 * 0 + 2) = 1 ∨ (if ftM v q d (v.1 82 (t * 7 + 0)) ≤ v.1 83 (t * 7 + 0) then 2 * 0 + 1 else 2 * 0 + 2) = 2 := by split <;> omega
    generalize (if ftM v q d (v.1 82 (t * 7 + 0)) ≤ v.1 83 (t * 7 + 0) then 2 * 0 + 1 else 2 * 0 + 2) = m9 at hb ⊢
    have hpar : v.1 81 (t * 7 + (m9 - 1) / 2) = 2 := by rw [show (m9 - 1) / 2 = 0 by omega]; exact c0
    by_cases c1 : v.1 81 (t * 7 + m9) = 2
    · have n1 : ¬ w.1 (63 + t) m9 < 0 := fun z => (sg m9 (by omega)).mp z c1
      rw [if_neg n1, if_pos c1, st m9 (by omega) c1]
      refine ⟨rfl, ?_⟩
      have hb2 : (if ftM v q d (v.1 82 (t * 7 + m9)) ≤ v.1 83 (t * 7 + m9) then 2 * m9 + 1 else 2 * m9 + 2) = 2 * m9 + 1 ∨ (if ftM v q d (v.1 82 (t * 7 + m9)) ≤ v.1 83 (t * 7 + m9) then 2 * m9 + 1 else 2 * m9 + 2) = 2 * m9 + 2 := by split <;> omega
      generalize (if ftM v q d (v.1 82 (t * 7 + m9)) ≤ v.1 83 (t * 7 + m9) then 2 * m9 + 1 else 2 * m9 + 2) = r9 at hb2 ⊢
      exact val r9 (by omega) (Or.inr (by rw [show (r9 - 1) / 2 = m9 by omega]; exact c1)) (fun z => by have := hk3 r9 (by omega) z; omega)
    · rw [if_pos ((sg m9 (by omega)).mpr c1), if_neg c1]
      exact ⟨rfl, val m9 (by omega) (Or.inr hpar) c1⟩
  · rw [if_pos ((sg 0 (by omega)).mpr c0), if_neg c0]
    exact ⟨rfl, val 0 (by omega) (Or.inl rfl) c0⟩
theorem score_eq {u : St} (h : Jnv u) {q d : Nat} (hq : q < 8) (hd : d < 16) : ∀ n, n ≤ nX u → scoreF (measF u d (u.1 2 q)) 8 n = scM u q d n := by
  have h4 := h.x.n4
  intro n
  induction n with
  | zero => intro _; rfl
  | succ n ih =>
    intro hn
    simp only [scoreF, scM]
    rw [ih (by omega)]
    have hR := walk_R (w := measF u d (u.1 2 q)) (v := u) (t := n) (q := q) (d := d) (x := (measF u d (u.1 2 q)).1 8) ((h.2.2.2 n (by omega)).mv (meas_ne (by omega)) (meas_ne (by omega)) rfl (fun j _ => ⟨rfl, rfl, rfl, rfl⟩)) (h.m.k3 n (by rw [← h.2.2.1]; omega)) (fun f hf => by
      rw [meas_8 hf]
      exact ft_tie h.t hq hd (nI f))
    rw [hR.2]
theorem scM_c {u w : St} {q d : Nat} (k : KM u w) : ∀ n, scM w q d n = scM u q d n := by
  have hw : ∀ t i j, walkM w q d t i j = walkM u q d t i j := by
    intro t i
    induction i with
    | zero => intro j; rfl
    | succ i ih =>
      intro j
      simp only [walkM]
      rw [k.1 81 (by decide), k.1 78 (by decide), k.1 79 (by decide), k.1 77 (by decide), k.1 82 (by decide), k.1 83 (by decide), ih]
  intro n
  induction n with
  | zero => rfl
  | succ n ih => simp only [scM]; rw [ih, hw, k.2.1 84 (by decide)]
theorem nM_c {u w : St} (k : KM u w) : nM w = nM u := by unfold nM; rw [k.2.2.1 11 (by decide)]
theorem isTh_c {u w : St} (k : KM u w) (d : Int32) : isThF w d = isThF u d := by unfold isThF; rw [k.1 76 (by decide)]
theorem ans_score {u : St} (h : Jnv u) (q d : Int32) : (scoX u q d (nX u)).1 = (scoM (scoX u q d (nX u)).2 q d (nM (scoX u q d (nX u)).2)).1 := by
  have km : KM u (scoX u q d (nX u)).2 := OX.km OX_scoX
  rw [nM_c km]
  unfold scoM
  rw [isTh_c km, scM_c km, ← h.2.2.1]
  unfold scoX
  rw [wi7, holds_th h.t]
  by_cases c1 : inF q 8 = 0
  · rw [if_pos c1, if_pos c1]
  · rw [if_neg c1, if_neg c1]
    by_cases c2 : isThF u d = 0
    · rw [if_pos c2, if_pos c2]
    · rw [if_neg c2, if_neg c2]
      obtain ⟨i, hi, rfl⟩ := in_ixN 8 c1
      obtain ⟨j, hj, rfl⟩ := vp_in_of (isTh_in c2) (by decide)
      rw [nI_clamp (n := i) (by omega), nI_clamp (n := j) (by omega)]
      exact score_eq h hi hj (nX u) (Nat.le_refl _)
theorem np_pos {u : St} (h : Tie u) : ∀ n, n ≤ 128 → npF (u.1 12) n = posF (u.1 80) n := by
  intro n
  induction n with
  | zero => intro _; rfl
  | succ n ih =>
    intro hn
    simp only [npF, posF]
    rw [h.grd n (by omega), ih (by omega)]
    have hg := gi_lt (h.gm n (by omega))
    by_cases c : u.1 80 n = -1
    · rw [if_pos c, if_pos (hg.mpr c)]
    · rw [if_neg c, if_neg (fun z => c (hg.mp z))]
theorem rest_eq {u : St} (h : Jnv u) (i : Int32) : ∀ (k t : Nat) (p9 : Int32), t + k = 128 → pairF (u.1 12) i k t = p9 → rstMF u i (nX u) k t = (if 0 ≤ p9 then (if holdsF u (nI (p9.toNatClampNeg % 16)) = 0 then -1000000000000000 else 65536 * (u.1 12 (p9.toNatClampNeg / 16 * 16 + p9.toNatClampNeg % 16)).toInt64 - scoreF (measF u (p9.toNatClampNeg % 16) (u.1 2 (p9.toNatClampNeg / 16))) 8 (nX u)) else -1000000000000000) := by
  intro k
  induction k with
  | zero =>
    intro t p9 _ hp
    have hp : -1 = p9 := hp
    rw [← hp, if_neg (show ¬ (0 : Int32) ≤ -1 by decide)]
    rfl
  | succ k ih =>
    intro t p9 ht hp
    simp only [pairF] at hp
    simp only [rstMF]
    have hg := gi_lt (h.t.gm t (by omega))
    have eg := h.t.grd t (by omega)
    by_cases c1 : u.1 12 t = -1
    · have c2 : ¬ 0 ≤ u.1 80 t := fun z => absurd (hg.mpr (eg ▸ c1)) (gez z)
      rw [if_pos c1] at hp
      rw [if_neg c2]
      exact ih (t + 1) p9 (by omega) hp
    · have c2 : 0 ≤ u.1 80 t := le_nlt (fun z => c1 (eg.trans (hg.mp z)))
      rw [if_neg c1, np_pos h.t t (by omega)] at hp
      rw [if_pos c2]
      by_cases c3 : posF (u.1 80) t = i
      · rw [if_pos c3] at hp
        subst hp
        rw [if_pos c3, if_pos (nI_ge0 (by omega)), nI_clamp (by omega), holds_th h.t]
        have e1 : t / 16 * 16 + t % 16 = t := by omega
        have e2 : isThF u (nI (t % 16)) = (if u.1 76 (t % 16) = 0 then 0 else 1) := by
          unfold isThF
          rw [if_neg (inn_d (d := t % 16) (by omega)), nI_clamp (by omega)]
        rw [e1, e2]
        by_cases c4 : u.1 76 (t % 16) = 0
        · simp [c4]
        · rw [if_neg c4, eg, Int64.mul_comm, score_eq h (by omega) (by omega) (nX u) (Nat.le_refl _)]
          simp [c4]
      · rw [if_neg c3] at hp
        rw [if_neg c3]
        exact ih (t + 1) p9 (by omega) hp
theorem ans_rest {u : St} (h : Jnv u) (i : Int32) : (rstX u i (nX u)).1 = (rstM (rstX u i (nX u)).2 i (nM (rstX u i (nX u)).2)).1 := by
  have km : KM u (rstX u i (nX u)).2 := OX.km OX_rstX
  have e : ∀ k t, rstMF (rstX u i (nX u)).2 i (nM u) k t = rstMF u i (nM u) k t := by
    intro k
    induction k with
    | zero => intro t; rfl
    | succ k ih =>
      intro t
      simp only [rstMF]
      rw [km.1 80 (by decide), km.1 76 (by decide), scM_c km, ih]
  rw [nM_c km]
  show _ = rstMF (rstX u i (nX u)).2 i (nM u) 128 0
  rw [e, ← h.2.2.1, rest_eq h i 128 0 _ rfl rfl]
  unfold rstX
  generalize pairF (u.1 12) i 128 0 = p9
  split
  · split <;> rfl
  · rfl
