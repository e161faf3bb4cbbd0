/-! candidates and ranking are the same on both sides -/
theorem i64_lt {a b : Int32} : a.toInt64 < b.toInt64 ↔ a < b := by rw [Int64.lt_iff_toInt_lt, Int32.lt_iff_toInt_lt, Int32.toInt_toInt64, Int32.toInt_toInt64]
theorem i64_eq {a b : Int32} : a.toInt64 = b.toInt64 ↔ a = b := by
  constructor
  · intro h
    apply Int32.toInt_inj.mp
    rw [← Int32.toInt_toInt64, ← Int32.toInt_toInt64, h]
  · intro h; rw [h]
theorem bf_rk {u : St} {q d : Nat} : ∀ n, bfN u q d n = rkN (foundF u q) (fun o => (plainF u q o).toInt64) d n := by
  intro n
  induction n with
  | zero => rfl
  | succ n ih =>
    simp only [bfN, rkN]
    rw [ih]
    by_cases c1 : foundF u q n = 0
    · rw [if_pos c1, if_pos c1]
    · rw [if_neg c1, if_neg c1]
      by_cases c2 : plainF u q d < plainF u q n
      · rw [if_pos c2, if_pos (i64_lt.mpr c2)]
      · rw [if_neg c2, if_neg (fun z => c2 (i64_lt.mp z))]
        by_cases c3 : plainF u q n = plainF u q d
        · rw [if_pos c3, if_pos (i64_eq.mpr c3)]
        · rw [if_neg c3, if_neg (fun z => c3 (i64_eq.mp z))]
theorem pc_RK {u : St} (h : Jnv u) {q : Nat} (hq : q < 8) : ∀ n, n ≤ 16 → RK (pcF u q n) 6 n (foundF u q) (fun d => nI d) (fun d => (plainF u q d).toInt64) := by
  intro n
  induction n with
  | zero => intro _; exact RK_0 sF_eq
  | succ n ih =>
    intro hn
    have hR := ih (by omega)
    obtain ⟨-, hc, -, -, -⟩ := pcF_ok u q n (by omega)
    have h8 : (pcF u q n).2.2.1 8 = nI (cfN (foundF u q) n) := by obtain ⟨o9, z, -⟩ := hR; exact z
    simp only [pcF]
    generalize pcF u q n = w at hR hc h8 ⊢
    have hth : holdsF w (nI n) = (if u.1 76 n = 0 then 0 else 1) := by
      unfold holdsF
      rw [if_neg (win_d (d := n) (by omega)), nI_clamp (by omega), hc 9 (by decide) (by decide), h.t.there n (by omega)]
    have hm : ∀ k, k < 5 → (measF w n (w.1 2 q)).1 8 k = ftM u q n (nI k) := fun k hk => by
      rw [meas_8 hk, hc (22 + n) (by omega) (by omega), hc 2 (by decide) (by decide), hc 10 (by decide) (by decide)]
      exact ft_tie h.t hq (by omega) (nI k)
    have m0 : (measF w n (w.1 2 q)).1 8 0 = ftM u q n 0 := hm 0 (by omega)
    have m1 : (measF w n (w.1 2 q)).1 8 1 = ftM u q n 1 := hm 1 (by omega)
    have m2 : (measF w n (w.1 2 q)).1 8 2 = ftM u q n 2 := hm 2 (by omega)
    have hmv : RK (measF w n (w.1 2 q)) 6 n (foundF u q) (fun d => nI d) (fun d => (plainF u q d).toInt64) := hR.mv rfl (meas_ne (by decide)) rfl
    unfold pcS
    rw [hth, m0, m1, m2]
    by_cases c1 : u.1 76 n = 0
    · rw [if_pos c1, if_pos rfl]
      exact RK_skip (by unfold foundF; rw [if_pos c1]) hR
    · rw [if_neg c1, if_neg (show ¬ (1 : Int32) = 0 by decide)]
      by_cases c2 : ftM u q n 0 ≤ 0
      · rw [if_pos c2]
        exact RK_skip (by unfold foundF; rw [if_neg c1, if_pos c2]) hmv
      · rw [if_neg c2, h8]
        have hcf := cf_le (foundF u q) n
        rw [nI_clamp (by omega)]
        exact RK_ins (by unfold foundF; rw [if_neg c1, if_neg c2]; decide) (by omega) hmv
theorem caR_no {u w : St} {q a : Nat} : ∀ n, (∀ d, d < n → ¬ foundF u q d = 0 → ¬ bfN u q d 16 = a) → caR u q a w n = w := by
  intro n
  induction n with
  | zero => intro _; rfl
  | succ n ih =>
    intro h
    simp only [caR]
    rw [ih (fun d hd => h d (by omega))]
    unfold caS
    by_cases c : foundF u q n = 0
    · rw [if_pos c]
    · rw [if_neg c, if_neg (h n (by omega) c)]
theorem caR_yes {u w : St} {q a d0 : Nat} (hf : ¬ foundF u q d0 = 0) (hb : bfN u q d0 16 = a) (hu : ∀ d, d < 16 → ¬ foundF u q d = 0 → bfN u q d 16 = a → d = d0) : ∀ n, n ≤ 16 → caR u q a w n = (if d0 < n then sF (sI w 88 a (nI d0)) 13 (nI (a + 1)) else w) := by
  intro n
  induction n with
  | zero => intro _; rw [if_neg (by omega)]; rfl
  | succ n ih =>
    intro hn
    simp only [caR]
    rw [ih (by omega)]
    unfold caS
    by_cases c : foundF u q n = 0
    · rw [if_pos c]
      have e : d0 ≠ n := fun e => hf (e ▸ c)
      by_cases c2 : d0 < n
      · rw [if_pos c2, if_pos (by omega)]
      · rw [if_neg c2, if_neg (by omega)]
    · rw [if_neg c]
      by_cases c3 : bfN u q n 16 = a
      · have e := hu n (by omega) c c3
        subst e
        rw [if_pos c3, if_neg (by omega), if_pos (by omega)]
      · rw [if_neg c3]
        have e : d0 ≠ n := fun e => c3 (e ▸ hb)
        by_cases c2 : d0 < n
        · rw [if_pos c2, if_pos (by omega)]
        · rw [if_neg c2, if_neg (by omega)]
/-- the reference's candidates, by places that a sorted row gives -/
theorem caA_spec {u w9 : St} {kk q : Nat} {dd : Nat → Int32} {o9 : Nat → Nat} (h : RKs w9 kk 16 (foundF u q) dd (fun d => (plainF u q d).toInt64) o9) : ∀ A, A ≤ 16 → (caA u q A).2.2.1 13 = nI (min (cfN (foundF u q) 16) A) ∧ ∀ i, i < min (cfN (foundF u q) 16) A → (caA u q A).1 88 i = nI (o9 i) := by
  intro A
  induction A with
  | zero => intro _; exact ⟨by rw [Nat.min_zero]; exact sF_eq, fun i hi => absurd hi (by omega)⟩
  | succ A ih =>
    intro hA
    obtain ⟨g1, g2⟩ := ih (by omega)
    simp only [caA]
    generalize caA u q A = w at g1 g2 ⊢
    by_cases c : A < cfN (foundF u q) 16
    · have ho := h.2.1 A c
      have hr : bfN u q (o9 A) 16 = A := by rw [bf_rk]; exact RK_rank h c
      rw [caR_yes (d0 := o9 A) ho.2.1 hr (fun d hd hf hb => RK_inj h hd ho.1 hf ho.2.1 (by rw [← bf_rk, ← bf_rk, hb, hr])) 16 (Nat.le_refl 16), if_pos ho.1]
      refine ⟨by rw [sF_eq, show min (cfN (foundF u q) 16) (A + 1) = A + 1 by omega], fun i hi => ?_⟩
      show (sI w 88 A (nI (o9 A))).1 88 i = _
      rw [sI_eq]
      by_cases e : i = A
      · rw [e, upd_at]
      · rw [upd_ne e]; exact g2 i (by omega)
    · rw [caR_no 16 (fun d hd hf hb => by
        have := (RK_lt h hd hf).1
        rw [← bf_rk, hb] at this
        omega), show min (cfN (foundF u q) 16) (A + 1) = min (cfN (foundF u q) 16) A by omega]
      exact ⟨g1, g2⟩
theorem found_k {u w : St} (k : KM u w) (q d : Nat) : foundF w q d = foundF u q d := by
  unfold foundF ftM
  rw [k.1 76 (by decide), k.1 77 (by decide), k.1 78 (by decide), k.1 79 (by decide)]
theorem plain_k {u w : St} (k : KM u w) (q d : Nat) : plainF w q d = plainF u q d := by
  unfold plainF ftM
  rw [k.1 77 (by decide), k.1 78 (by decide), k.1 79 (by decide)]
/-- the class's candidates: how many, and which -/
theorem pick_spec {u : St} (h : Jnv u) {q : Nat} {o9 : Nat → Nat} (hR : RKs (pcF u q 16) 6 16 (foundF u q) (fun d => nI d) (fun d => (plainF u q d).toInt64) o9) : (pickF u q).2.2.1 8 = nI (min (cfN (foundF u q) 16) (aM u)) ∧ ∀ i, i < min (cfN (foundF u q) 16) (aM u) → (pickF u q).1 18 i = nI (o9 i) := by
  obtain ⟨-, -, -, hf, -⟩ := pcF_ok u q 16 (Nat.le_refl 16)
  have hf := hf 0 (by decide)
  have hc := cf_le (foundF u q) 16
  have ha := h.m.a16
  unfold pickF
  generalize pcF u q 16 = w at hR hf ⊢
  have h8 : w.2.2.1 8 = nI (cfN (foundF u q) 16) := hR.1
  have h18 : ∀ i, i < cfN (foundF u q) 16 → w.1 18 i = nI (o9 i) := fun i hi => (hR.2.1 i hi).2.2.1
  have h0 : w.2.2.1 0 = nI (aM u) := by rw [hf, h.t.dep]; exact h.m.s10
  unfold cutF
  refine ⟨?_, fun i hi => h18 i (by omega)⟩
  rw [sF_eq, h8, h0]
  by_cases c : aM u < cfN (foundF u q) 16
  · rw [if_pos ((nI_ltI (a := aM u) (b := cfN (foundF u q) 16) (by omega) (by omega)).mpr c), show min (cfN (foundF u q) 16) (aM u) = aM u by omega]
  · rw [if_neg (fun z => c ((nI_ltI (a := aM u) (b := cfN (foundF u q) 16) (by omega) (by omega)).mp z)), show min (cfN (foundF u q) 16) (aM u) = cfN (foundF u q) 16 by omega]
theorem cf_one : ∀ n, cfN (fun _ => 1) n = n := by
  intro n
  induction n with
  | zero => rfl
  | succ n ih => simp only [cfN]; rw [if_neg (by decide), ih]
/-- the class's ranking anew -/
theorem ra_RK {u : St} (h : Jnv u) {q b : Nat} (hq : q < 8) {o9 : Nat → Nat} (hb : b ≤ 16) (ho : ∀ i, i < b → o9 i < 16 ∧ (pickF u q).1 18 i = nI (o9 i)) : ∀ i, i ≤ b → RK (raF (pickF u q) q (nX u) i) 7 i (fun _ => 1) (fun s9 => nI (o9 s9)) (fun s9 => scM u q (o9 s9) (nX u)) := by
  intro i
  induction i with
  | zero => intro _; exact RK_0 sF_eq
  | succ i ih =>
    intro hi
    have hR := ih (by omega)
    obtain ⟨-, h1, h2, h3, h4⟩ := raF_ok (pickF u q) q (nX u) b hb (fun i hi => ⟨o9 i, (ho i hi).1, (ho i hi).2⟩) i (by omega)
    have hO : OX u (pickF u q) := OX_pick h.x.d0
    have h9 : (raF (pickF u q) q (nX u) i).2.2.1 9 = nI i := by
      obtain ⟨o2, z, -⟩ := hR
      rw [cf_one] at z
      exact z
    simp only [raF]
    have hO2 : OX (pickF u q) (raF (pickF u q) q (nX u) i) := ⟨fun j hj => h1 j hj.1 hj.2.2, fun j hj => h2 j hj.2, fun j hj => h3 j hj.2, fun j _ => by rw [h4]⟩
    have h18 : (raF (pickF u q) q (nX u) i).1 18 i = nI (o9 i) := by rw [h1 18 (by decide) (by decide)]; exact (ho i (by omega)).2
    generalize raF (pickF u q) q (nX u) i = w at hR h9 hO2 h18 ⊢
    have hOw : OX u w := Same.tr hO hO2
    have hJ : Jnv w := h.ox hOw
    have hn : nX w = nX u := by unfold nX; rw [hOw.2.2.1 2 (by decide)]
    have hd := (ho i (by omega)).1
    have hs : scoreF (measF w (o9 i) (w.1 2 q)) 8 (nX u) = scM u q (o9 i) (nX u) := by
      rw [← hn, score_eq hJ hq hd (nX w) (Nat.le_refl _), scM_c (OX.km hOw)]
    unfold raS
    rw [h18, nI_clamp (by omega), hs, h9, nI_clamp (by omega)]
    have := RK_ins (w := measF w (o9 i) (w.1 2 q)) (kk := 7) (n := i) (fd := fun _ => 1) (dd := fun s9 => nI (o9 s9)) (key := fun s9 => scM u q (o9 s9) (nX u)) (by decide) (by rw [cf_one]; omega) (hR.mv rfl (meas_ne (by decide)) rfl)
    rw [cf_one] at this
    exact this
theorem rk_c {fd : Nat → Int32} {key key2 : Nat → Int64} {s9 : Nat} (hs : key2 s9 = key s9) : ∀ n, (∀ i, i < n → key2 i = key i) → rkN fd key2 s9 n = rkN fd key s9 n := by
  intro n
  induction n with
  | zero => intro _; rfl
  | succ n ih => intro h; simp only [rkN]; rw [h n (by omega), hs, ih (fun i hi => h i (by omega))]
theorem rb_rk {u w : St} {q n i : Nat} : ∀ k, rbN u w q n i k = rkN (fun _ => 1) (fun s9 => scM u q (w.1 88 s9).toNatClampNeg n) i k := by
  intro k
  induction k with
  | zero => rfl
  | succ k ih =>
    simp only [rbN, rkN]
    rw [ih, if_neg (show ¬ (1 : Int32) = 0 by decide)]
    by_cases c1 : scM u q (w.1 88 i).toNatClampNeg n < scM u q (w.1 88 k).toNatClampNeg n
    · rw [if_pos c1, if_pos ((lg_cmp_gt _ _).mpr c1)]
    · rw [if_neg c1, if_neg (fun z => c1 ((lg_cmp_gt _ _).mp z))]
      by_cases c2 : scM u q (w.1 88 k).toNatClampNeg n = scM u q (w.1 88 i).toNatClampNeg n
      · rw [if_pos c2, if_pos ((lg_cmp_eq _ _).mpr c2)]
      · rw [if_neg c2, if_neg (fun z => c2 ((lg_cmp_eq _ _).mp z))]
theorem leF_at {u w : St} {q n b : Nat} (hinj : ∀ i j, i < b → j < b → rbN u w q n i b = rbN u w q n j b → i = j) : ∀ i, i ≤ b → ∀ j, j < i → (leF u w q n b i).1 89 (rbN u w q n j b) = w.1 88 j := by
  intro i
  induction i with
  | zero => intro _ j hj; exact absurd hj (by omega)
  | succ i ih =>
    intro hi j hj
    simp only [leF]
    rw [sI_eq]
    by_cases e : j = i
    · rw [e, upd_at]
    · rw [upd_ne (fun z => e (hinj j i (by omega) (by omega) z))]
      exact ih (by omega) j (by omega)
/-- both rankings of a query: how many, and which -/
theorem rank_all {u u1 : St} (h : Jnv u) (km : KM u u1) {q : Nat} (hq : q < 8) : ∃ b : Nat, b ≤ 16 ∧ (pickF u q).2.2.1 8 = nI b ∧ (rankF u q (nX u)).2.2.1 9 = nI b ∧ (rankM u1 q (aM u1) (nM u1)).2.2.1 13 = nI b ∧ (∀ i, i < b → ixD ((pickF u q).1 18 i) ∧ (pickF u q).1 18 i = (rankM u1 q (aM u1) (nM u1)).1 88 i) ∧ (∀ i, i < b → ixD ((rankF u q (nX u)).1 20 i) ∧ (rankF u q (nX u)).1 20 i = (rankM u1 q (aM u1) (nM u1)).1 89 i) := by
  obtain ⟨o9, hR⟩ := pc_RK h hq 16 (Nat.le_refl 16)
  have ea : aM u1 = aM u := by unfold aM; rw [km.2.2.1 10 (by decide)]
  have en : nM u1 = nX u := by rw [nM_c km, h.2.2.1]
  have ef : foundF u1 q = foundF u q := funext (fun d => found_k km q d)
  have ep : (fun d => (plainF u1 q d).toInt64) = (fun d => (plainF u q d).toInt64) := funext (fun d => by rw [plain_k km])
  obtain ⟨p1, p2⟩ := pick_spec h hR
  have hR1 : RKs (pcF u q 16) 6 16 (foundF u1 q) (fun d => nI d) (fun d => (plainF u1 q d).toInt64) o9 := by rw [ef, ep]; exact hR
  obtain ⟨c1, c2⟩ := caA_spec hR1 (aM u) h.m.a16
  rw [ef] at c1 c2
  have hcl := cf_le (foundF u q) 16
  have hol : ∀ i, i < cfN (foundF u q) 16 → o9 i < 16 := fun i hi => (hR.2.1 i hi).1
  rw [ea, en]
  unfold rankM
  clear hR hR1
  generalize hbe : min (cfN (foundF u q) 16) (aM u) = b at p1 p2 c1 c2
  have hb16 : b ≤ 16 := by omega
  have ho : ∀ i, i < b → o9 i < 16 ∧ (pickF u q).1 18 i = nI (o9 i) := fun i hi => ⟨hol i (by omega), p2 i hi⟩
  obtain ⟨s2, hS⟩ := ra_RK h hq hb16 ho b (Nat.le_refl b)
  have eR : rankF u q (nX u) = raF (pickF u q) q (nX u) b := by
    unfold rankF
    rw [p1, nI_clamp (by omega)]
  rw [eR]
  generalize raF (pickF u q) q (nX u) b = x9 at hS ⊢
  generalize caA u1 q (aM u) = w at c1 c2 ⊢
  rw [c1, nI_clamp (by omega)]
  have hcl1 : ∀ i, i < b → (w.1 88 i).toNatClampNeg = o9 i := fun i hi => by rw [c2 i hi, nI_clamp (by have := (ho i hi).1; omega)]
  have hrb : ∀ i, i < b → rbN u1 w q (nX u) i b = rkN (fun _ => 1) (fun s9 => scM u q (o9 s9) (nX u)) i b := fun i hi => by
    rw [rb_rk]
    exact rk_c (by rw [hcl1 i hi, scM_c km]) b (fun j hj => by rw [hcl1 j hj, scM_c km])
  have hinj : ∀ i j, i < b → j < b → rbN u1 w q (nX u) i b = rbN u1 w q (nX u) j b → i = j := fun i j hi hj e => by
    rw [hrb i hi, hrb j hj] at e
    exact RK_inj hS hi hj (show ¬ (1 : Int32) = 0 by decide) (show ¬ (1 : Int32) = 0 by decide) e
  obtain ⟨k1, k2⟩ := leF_keep (u := u1) (w := w) (q := q) (n := nX u) (b := b) b
  have h9 : x9.2.2.1 9 = nI b := by
    have := hS.1
    rw [cf_one] at this
    exact this
  refine ⟨b, hb16, p1, h9, by rw [k2]; exact c1, fun i hi => ⟨⟨o9 i, (ho i hi).1, p2 i hi⟩, by rw [k1 88 (by decide), p2 i hi, c2 i hi]⟩, fun i hi => ?_⟩
  have hi' : i < cfN (fun _ => 1) b := by rw [cf_one]; exact hi
  have e1 := hS.2.1 i hi'
  have e2 := RK_rank hS hi'
  have e3 : x9.1 20 i = nI (o9 (s2 i)) := e1.2.2.1
  have e4 := leF_at (u := u1) (w := w) (q := q) (n := nX u) (b := b) hinj b (Nat.le_refl b) (s2 i) e1.1
  rw [hrb (s2 i) e1.1, e2] at e4
  refine ⟨⟨o9 (s2 i), (ho (s2 i) e1.1).1, e3⟩, ?_⟩
  rw [e3, e4, c2 (s2 i) e1.1]
theorem ans_ranked {u : St} (h : Jnv u) (q i z : Int32) : (rnkX u q i z (nX u)).1 = (rnkM (rnkX u q i z (nX u)).2 q i z (aM (rnkX u q i z (nX u)).2) (nM (rnkX u q i z (nX u)).2)).1 := by
  have km : KM u (rnkX u q i z (nX u)).2 := OX.km (OX_rnkX h.x.d0)
  generalize hu1 : (rnkX u q i z (nX u)).2 = u1 at km ⊢
  clear hu1
  unfold rnkX rnkM
  rw [wi7]
  by_cases c1 : inF q 8 = 0
  · rw [if_pos c1, if_pos c1]
  · rw [if_neg c1, if_neg c1]
    obtain ⟨k, hk, rfl⟩ := in_ixN 8 c1
    rw [nI_clamp (by omega)]
    obtain ⟨b, hb, e1, e2, e3, g1, g2⟩ := rank_all h km hk
    generalize rankM u1 k (aM u1) (nM u1) = v at e3 g1 g2 ⊢
    generalize pickF u k = w1 at e1 g1 ⊢
    generalize rankF u k (nX u) = w2 at e2 g2 ⊢
    rw [e3]
    unfold rnkA
    by_cases c2 : z = 0
    · rw [if_pos c2, if_pos c2, show w1.2.2.1 (6 + 2) = nI b from e1, wi_n hb]
      by_cases c3 : inF i (nI b) = 0
      · rw [if_pos c3, if_pos c3]
      · rw [if_neg c3, if_neg c3]
        obtain ⟨j, hj, rfl⟩ := in_ixN b c3 rfl (by omega)
        rw [nI_clamp (by omega)]
        exact (g1 j hj).2
    · rw [if_neg c2, if_neg c2, show w2.2.2.1 (7 + 2) = nI b from e2, wi_n hb]
      by_cases c3 : inF i (nI b) = 0
      · rw [if_pos c3, if_pos c3]
      · rw [if_neg c3, if_neg c3]
        obtain ⟨j, hj, rfl⟩ := in_ixN b c3 rfl (by omega)
        rw [nI_clamp (by omega)]
        exact (g2 j hj).2
theorem mer_t : ∀ g, g < 8 → ∀ i, i < 16 → (((1 : Int64) <<< ((nI g).toInt64 &&& 63)) - 1) * ((65536 : Int32) >>> (nI i &&& 31)).toInt64 = gnL g <<< ((16 - nI i : Int32).toInt64 &&& 63) := by decide +kernel
theorem mer_0 : ∀ i, i < 16 → (0 : Int64) = (0 : Int64) <<< ((16 - nI i : Int32).toInt64 &&& 63) := by decide +kernel
theorem mer_eq {u w v : St} {kk q b : Nat} {z : Int32} (hT : Tie u) (h7 : ∀ j, j < 128 → u.1 80 j ≤ 7) (hq : q < 8) (hb : b ≤ 16) (e12 : w.1 12 = u.1 12) (e80 : v.1 80 = u.1 80) (hd : ∀ i, i < b → ixD (w.1 (2 * kk + 6) i) ∧ w.1 (2 * kk + 6) i = (if z = 0 then v.1 88 i else v.1 89 i)) : ∀ i, i ≤ b → merF w kk q i = meM v q z i := by
  intro i
  induction i with
  | zero => intro _; rfl
  | succ i ih =>
    intro hi
    simp only [merF, meM]
    obtain ⟨⟨d, hd16, ed⟩, e2⟩ := hd i (by omega)
    rw [ih (by omega), ← e2, ed, nI_clamp (by omega), e12, e80, hT.grd _ (by omega)]
    have hg := hT.gm (q * 16 + d) (by omega)
    have h77 := h7 (q * 16 + d) (by omega)
    by_cases c : u.1 80 (q * 16 + d) = -1
    · rw [if_pos c, c]
      show _ = meM v q z i + gnL 0 <<< _
      have := mer_0 i (by omega)
      show _ = meM v q z i + (0 : Int64) <<< ((16 - nI i : Int32).toInt64 &&& 63)
      rw [← this, Int64.add_zero]
    · rw [if_neg c]
      obtain ⟨g, hg9, eg⟩ := nI_of (fun q2 => c ((gi_lt hg).mp q2))
      rw [eg] at h77 ⊢
      have hg8 : g < 8 := by
        have := (nI_leI (a := g) (b := 7) hg9 (by omega)).mp h77
        omega
      rw [mer_t g hg8 i (by omega), nI_clamp (by omega)]
theorem ans_merit {u : St} (h : Jnv u) (q z : Int32) : (merX u q z (nX u)).1 = (merM (merX u q z (nX u)).2 q z (aM (merX u q z (nX u)).2) (nM (merX u q z (nX u)).2)).1 := by
  have hO : OX u (merX u q z (nX u)).2 := OX_merX h.x.d0
  have hJ := h.ox hO
  have km := OX.km hO
  generalize (merX u q z (nX u)).2 = u1 at hJ km ⊢
  unfold merX merM
  rw [wi7]
  by_cases c1 : inF q 8 = 0
  · rw [if_pos c1, if_pos c1]
  · rw [if_neg c1, if_neg c1]
    obtain ⟨k, hk, rfl⟩ := in_ixN 8 c1
    rw [nI_clamp (by omega)]
    obtain ⟨b, hb, e1, e2, e3, g1, g2⟩ := rank_all h km hk
    have e80 : (rankM u1 k (aM u1) (nM u1)).1 80 = u.1 80 := by
      rw [(rankM_ok u1 k (aM u1) (nM u1) hJ.m.a16 hJ.m.c88).2.1 80 (by decide) (by decide)]
      exact km.1 80 (by decide)
    have p12 : (pickF u k).1 12 = u.1 12 := (OX_pick (q := k) h.x.d0).1 12 (by decide)
    have r12 : (rankF u k (nX u)).1 12 = u.1 12 := (OX_rank (q := k) (n := nX u) h.x.d0).1 12 (by decide)
    generalize rankM u1 k (aM u1) (nM u1) = v at e3 e80 g1 g2 ⊢
    generalize pickF u k = w1 at e1 p12 g1 ⊢
    generalize rankF u k (nX u) = w2 at e2 r12 g2 ⊢
    unfold merA
    by_cases c2 : z = 0
    · rw [if_pos c2, show w1.2.2.1 (6 + 2) = nI b from e1, e3]
      show merF w1 6 k (nI b).toNatClampNeg = meM v k z (nI b).toNatClampNeg
      rw [nI_clamp (by omega)]
      exact mer_eq (kk := 6) h.t h.m.g7 hk hb p12 e80 (fun i hi => ⟨(g1 i hi).1, by rw [if_pos c2]; exact (g1 i hi).2⟩) b (Nat.le_refl b)
    · rw [if_neg c2, show w2.2.2.1 (7 + 2) = nI b from e2, e3]
      show merF w2 7 k (nI b).toNatClampNeg = meM v k z (nI b).toNatClampNeg
      rw [nI_clamp (by omega)]
      exact mer_eq (kk := 7) h.t h.m.g7 hk hb r12 e80 (fun i hi => ⟨(g2 i hi).1, by rw [if_neg c2]; exact (g2 i hi).2⟩) b (Nat.le_refl b)
