theorem in_ix9 {x : Int32} {n : Nat} (hn9 : n ≤ 16) (h : ¬ inF x (nI n) = 0) : ∃ j : Nat, j < n ∧ x = nI j := vp_in_of (in_in (N := n) h rfl (by omega)) (by omega)
def OKN (u w : St) : Prop := (∃ b : Nat, b ≤ 16 ∧ w.2.2.1 13 = nI b) ∧ (∀ j, j ≠ 88 → j ≠ 89 → w.1 j = u.1 j) ∧ w.2.1 = u.2.1 ∧ ((∀ j, j ≠ 13 → w.2.2.1 j = u.2.2.1 j) ∧ w.2.2.2 = u.2.2.2) ∧ (∀ i, i < 16 → ixD (w.1 88 i)) ∧ ((∀ i, i < 16 → ixD (u.1 89 i)) → ∀ i, i < 16 → ixD (w.1 89 i))
theorem leF_keep {u w : St} {q n b : Nat} : ∀ i, (∀ j, j ≠ 89 → (leF u w q n b i).1 j = w.1 j) ∧ (leF u w q n b i).2 = w.2 := by
  intro i
  induction i with
  | zero => exact ⟨fun _ _ => rfl, rfl⟩
  | succ i ih => exact ⟨fun j hj => by simp only [leF]; rw [sI_ne hj]; exact ih.1 j hj, ih.2⟩
theorem leF_89 {u w : St} {q n b : Nat} (hb : b ≤ 16) (h8 : ∀ i, i < 16 → ixD (w.1 88 i)) (h9 : ∀ i, i < 16 → ixD (w.1 89 i)) : ∀ i, i ≤ b → ∀ j, j < 16 → ixD ((leF u w q n b i).1 89 j) := by
  intro i
  induction i with
  | zero => intro _; exact h9
  | succ i ih =>
    intro hi j hj
    simp only [leF]
    rw [sI_eq]
    unfold upd
    split
    · exact h8 i (by omega)
    · exact ih (by omega) j hj
theorem rankM_ok (u : St) (q a n : Nat) (ha : a ≤ 16) (hc : ∀ i, i < 16 → ixD (u.1 88 i)) : OKN u (rankM u q a n) := by
  obtain ⟨⟨⟨b, hb16, hb13⟩, hcw⟩, hwc, hw2, hwf, hw4⟩ := caA_ok u q hc a ha
  unfold rankM
  generalize caA u q a = w at hb13 hcw hwc hw2 hwf hw4 ⊢
  rw [hb13, nI_clamp (by omega)]
  obtain ⟨k1, k2⟩ := leF_keep (u := u) (w := w) (q := q) (n := n) (b := b) b
  have h9 : (∀ i, i < 16 → ixD (w.1 89 i)) → ∀ j, j < 16 → ixD ((leF u w q n b b).1 89 j) := fun h => leF_89 (u := u) (w := w) (q := q) (n := n) (b := b) hb16 hcw h b (Nat.le_refl b)
  generalize leF u w q n b b = x at k1 k2 h9 ⊢
  refine ⟨⟨b, hb16, by rw [k2]; exact hb13⟩, fun j h8 h9 => by rw [k1 j h9]; exact hwc j h8, by rw [k2]; exact hw2, ⟨fun j hj => by rw [k2]; exact hwf j hj, by rw [k2]; exact hw4⟩, fun i hi => by rw [k1 88 (by decide)]; exact hcw i hi, fun h => h9 (fun i hi => by rw [hwc 89 (by decide)]; exact h i hi)⟩
def rnkM (u : St) (q i z : Int32) (a n : Nat) : Int32 × St := if inF q 8 = 0 then (-1, u) else if inF i ((rankM u q.toNatClampNeg a n).2.2.1 13) = 0 then (-1, rankM u q.toNatClampNeg a n) else if z = 0 then ((rankM u q.toNatClampNeg a n).1 88 i.toNatClampNeg, rankM u q.toNatClampNeg a n) else ((rankM u q.toNatClampNeg a n).1 89 i.toNatClampNeg, rankM u q.toNatClampNeg a n)
def gnL : Nat → Int64
  | 0 => 0
  | k + 1 => 2 * gnL k + 1
def meM (w : St) (o : Nat) (z : Int32) : Nat → Int64
  | 0 => 0
  | i + 1 => meM w o z i + (gnL (w.1 80 (o * 16 + (if z = 0 then w.1 88 i else w.1 89 i).toNatClampNeg)).toNatClampNeg <<< ((16 - nI i : Int32).toInt64 &&& 63))
def merM (u : St) (q z : Int32) (a n : Nat) : Int64 × St := if inF q 8 = 0 then (-1000000000000000, u) else (meM (rankM u q.toNatClampNeg a n) q.toNatClampNeg z ((rankM u q.toNatClampNeg a n).2.2.1 13).toNatClampNeg, rankM u q.toNatClampNeg a n)
theorem lt7 {x : Int32} {k : Nat} (h7 : x ≤ 7) (h : ¬ x ≤ nI k) (hk : k ≤ 7) : k < 7 := by
  rcases Nat.lt_or_ge k 7 with q | q
  · exact q
  · have : k = 7 := by omega
    subst this
    exact absurd h7 h
theorem le_succ9 {x : Int32} {k : Nat} (h : ¬ x ≤ nI k) (hk : k < 7) : nI (k + 1) ≤ x := by
  rw [Int32.le_iff_toInt_le] at h ⊢
  rw [nI_toInt (by omega)] at h ⊢
  omega
theorem clamp_exit {x : Int32} {k : Nat} (h1 : k = 0 ∨ nI k ≤ x) (h2 : x ≤ nI k) (hk : k ≤ 7) : x.toNatClampNeg = k := by
  have h2' := Int32.le_iff_toInt_le.mp h2
  rw [nI_toInt (by omega)] at h2'
  show x.toInt.toNat = k
  rcases h1 with rfl | h1
  · omega
  · rw [Int32.le_iff_toInt_le, nI_toInt (by omega)] at h1
    omega
set_option maxHeartbeats 4000000 in
set_option maxRecDepth 100000 in
theorem m_M_ranked {l : Launch} {D : va_G} {g : Ids} {ad : Nat → Nat} {u : St} (q : Int32) (i : Int32) (z : Int32) (a : Nat) (n : Nat) (hdp : a ≤ 16) (hd10 : u.2.2.1 10 = nI a) (hcd : ∀ i, i < 16 → ixD (u.1 88 i)) (hn4 : n ≤ 4) (hs : u.2.2.1 11 = nI n) (hK3 : ∀ t, t < n → ∀ j, j < 7 → u.1 81 (t * 7 + j) = 2 → j < 3) : XMi l D g ad y_M_ranked b_M_ranked 4 ((some .int)) (rmN 3 83) [.ref (ad 75), .int q, .int i, .int z] u (fun v r => (v, r) = rnkM u q i z a n) := fun sz => x_met (by decide) (Nat.le_of_ble_eq_true rfl) (fun p e s m below meth c hsz hx hb hr hml hown ht hlk hw ls hl => by
  have hA : ∀ q, s.heap.size ≤ q → AX ad sz q := fun q h => Or.inr (hsz ▸ h)
  have hl : lv_has ls 4 [(0, .ref (ad 75)), (1, .int q), (2, .int i), (3, .int z)] := hl
  refine lv_iload_n hx hb d_M_ranked_0 rfl (lv_at hl 1 rfl) ?_
  refine lv_bipush (v := 8) hx hb d_M_ranked_1 (by decide) ?_
  refine x_ci (x_runS (na := 2) (As := [.int q, .int 8]) (rest := []) ⟨hx, hb, hml, hown, ht⟩ (m_M_in q 8 _) w_554 w_555 w_9 w_556 (by decide +kernel) ⟨rfl, rfl, by decide, by decide⟩ hw rfl hl.1 rfl (Nat.le_of_ble_eq_true rfl) d_M_ranked_3 ⟨Nat.zero_le _, Nat.zero_le _⟩) hw hA (fun v3 u3 H locs hp hw => ?_)
  obtain ⟨hv9, hu⟩ := hp
  subst hv9
  have hu := hu.symm
  subst hu
  refine lv_if_ne (tgt := 11) hx hb d_M_ranked_6 (by decide) (fun c6 => ?_) (fun c6 => ?_)
  · obtain ⟨o, ho8, rfl⟩ : ∃ j : Nat, j < 8 ∧ q = nI j := vp_in_of (in_in (N := 8) c6) (by decide)
    refine lv_aload_n hx hb d_M_ranked_11 rfl (lv_at hl 0 rfl) ?_
    refine lv_iload_n hx hb d_M_ranked_12 rfl (lv_at hl 1 rfl) ?_
    refine x_cv (x_runV (na := 1) (k := 75) (As := [.int (nI o)]) (rest := []) (ci := 7) ⟨hx, hb, hml, hown, ht⟩ (m_M_rank o a n ho8 hdp hd10 hcd hn4 hs hK3 _) w_629 w_631 s_22 w_9 w_632 (by decide +kernel) ⟨rfl, rfl, by decide, by decide⟩ hw (by decide) o_M rfl rfl hl.1 rfl (Nat.le_of_ble_eq_true rfl) d_M_ranked_13 ⟨Nat.zero_le _, Nat.zero_le _⟩) hw hA (fun u13 H locs hp hw => ?_)
    have hu13 : u13 = rankM u o a n := hp
    obtain ⟨⟨b, hb16, hb13⟩, hkc, -, -, hc8, hc9⟩ : OKN u u13 := hu13 ▸ rankM_ok u o a n hdp hcd
    refine lv_iload_n hx hb d_M_ranked_16 rfl (lv_at hl 2 rfl) ?_
    refine lv_aload_n hx hb d_M_ranked_17 rfl (lv_at hl 0 rfl) ?_
    refine x_get (ci := 7) (k := 75) hx hb ht in_M hown hw (by decide) o_M rfl 17 (by decide) (ht _ w_503) rfl d_M_ranked_18 ?_
    rw [show (u13.2.2.1 13) = (nI b) from hb13]
    refine x_ci (x_runS (na := 2) (As := [.int i, .int (nI b)]) (rest := []) ⟨hx, hb, hml, hown, ht⟩ (m_M_in i (nI b) _) w_554 w_555 w_9 w_556 (by decide +kernel) ⟨rfl, rfl, by decide, by decide⟩ hw rfl hl.1 rfl (Nat.le_of_ble_eq_true rfl) d_M_ranked_21 ⟨Nat.zero_le _, Nat.zero_le _⟩) hw hA (fun v21 u21 H locs hp hw => ?_)
    obtain ⟨hv9, hu⟩ := hp
    subst hv9
    have hu := hu.symm
    subst hu
    refine lv_if_ne (tgt := 29) hx hb d_M_ranked_24 (by decide) (fun c24 => ?_) (fun c24 => ?_)
    · obtain ⟨j, hj, rfl⟩ : ∃ j : Nat, j < b ∧ i = nI j := in_ix9 hb16 c24
      refine lv_iload_n hx hb d_M_ranked_29 rfl (lv_at hl 3 rfl) ?_
      refine lv_if_eq (tgt := 42) hx hb d_M_ranked_30 (by decide) (fun c30 => ?_) (fun c30 => ?_)
      · refine lv_aload_n hx hb d_M_ranked_42 rfl (lv_at hl 0 rfl) ?_
        refine x_get (ci := 7) (k := 75) hx hb ht in_M hown hw (by decide) o_M rfl 15 (by decide) (ht _ w_501) rfl d_M_ranked_43 ?_
        refine lv_iload_n hx hb d_M_ranked_46 rfl (lv_at hl 2 rfl) ?_
        refine x_iald (k := 88) hx hb hw (by decide) rfl (vin (N := 16) (by omega) rfl (by omega)) d_M_ranked_47 ?_
        rw [nI_clamp (n := j) (by omega)]
        exact x_iret hsz hx hb hr hlk hw (by have e := nI_clamp (n := o) (by omega); unfold rnkM; rw [if_neg c6, e, ← hu13, hb13, if_neg c24, nI_clamp (by omega)]; first | (rw [if_pos c30]; done) | (rw [if_neg c30]; done)) d_M_ranked_48
      · refine lv_aload_n hx hb d_M_ranked_33 rfl (lv_at hl 0 rfl) ?_
        refine x_get (ci := 7) (k := 75) hx hb ht in_M hown hw (by decide) o_M rfl 16 (by decide) (ht _ w_502) rfl d_M_ranked_34 ?_
        refine lv_iload_n hx hb d_M_ranked_37 rfl (lv_at hl 2 rfl) ?_
        refine x_iald (k := 89) hx hb hw (by decide) rfl (vin (N := 16) (by omega) rfl (by omega)) d_M_ranked_38 ?_
        rw [nI_clamp (n := j) (by omega)]
        refine lv_goto (tgt := 48) hx hb d_M_ranked_39 (by decide) ?_
        exact x_iret hsz hx hb hr hlk hw (by have e := nI_clamp (n := o) (by omega); unfold rnkM; rw [if_neg c6, e, ← hu13, hb13, if_neg c24, nI_clamp (by omega)]; first | (rw [if_pos c30]; done) | (rw [if_neg c30]; done)) d_M_ranked_48
    · refine lv_iconst (v := (-1)) hx hb d_M_ranked_27 (by decide) ?_
      exact x_iret hsz hx hb hr hlk hw (by have e := nI_clamp (n := o) (by omega); unfold rnkM; rw [if_neg c6, e, ← hu13, hb13, if_pos c24]) d_M_ranked_28
  · refine lv_iconst (v := (-1)) hx hb d_M_ranked_9 (by decide) ?_
    exact x_iret hsz hx hb hr hlk hw (by simp [rnkM, c6]) d_M_ranked_10)
set_option maxHeartbeats 4000000 in
set_option maxRecDepth 100000 in
theorem m_M_merit {l : Launch} {D : va_G} {g : Ids} {ad : Nat → Nat} {u : St} (q : Int32) (z : Int32) (a : Nat) (n : Nat) (hdp : a ≤ 16) (hd10 : u.2.2.1 10 = nI a) (hcd : ∀ i, i < 16 → ixD (u.1 88 i)) (hn4 : n ≤ 4) (hs : u.2.2.1 11 = nI n) (hK3 : ∀ t, t < n → ∀ j, j < 7 → u.1 81 (t * 7 + j) = 2 → j < 3) (hld : ∀ i, i < 16 → ixD (u.1 89 i)) (hgr : ∀ j, j < 128 → u.1 80 j ≤ 7) : XMl l D g ad y_M_merit b_M_merit 10 ((some .long)) (rmN 3 83) [.ref (ad 75), .int q, .int z] u (fun v r => (v, r) = merM u q z a n) := fun sz => x_met (by decide) (Nat.le_of_ble_eq_true rfl) (fun p e s m below meth c hsz hx hb hr hml hown ht hlk hw ls hl => by
  have hA : ∀ q, s.heap.size ≤ q → AX ad sz q := fun q h => Or.inr (hsz ▸ h)
  have hl : lv_has ls 10 [(0, .ref (ad 75)), (1, .int q), (2, .int z)] := hl
  refine lv_iload_n hx hb d_M_merit_0 rfl (lv_at hl 1 rfl) ?_
  refine lv_bipush (v := 8) hx hb d_M_merit_1 (by decide) ?_
  refine x_ci (x_runS (na := 2) (As := [.int q, .int 8]) (rest := []) ⟨hx, hb, hml, hown, ht⟩ (m_M_in q 8 _) w_554 w_555 w_9 w_556 (by decide +kernel) ⟨rfl, rfl, by decide, by decide⟩ hw rfl hl.1 rfl (Nat.le_of_ble_eq_true rfl) d_M_merit_3 ⟨Nat.zero_le _, Nat.zero_le _⟩) hw hA (fun v3 u3 H locs hp hw => ?_)
  obtain ⟨hv9, hu⟩ := hp
  subst hv9
  have hu := hu.symm
  subst hu
  refine lv_if_ne (tgt := 13) hx hb d_M_merit_6 (by decide) (fun c6 => ?_) (fun c6 => ?_)
  · obtain ⟨o, ho8, rfl⟩ : ∃ j : Nat, j < 8 ∧ q = nI j := vp_in_of (in_in (N := 8) c6) (by decide)
    refine lv_aload_n hx hb d_M_merit_13 rfl (lv_at hl 0 rfl) ?_
    refine lv_iload_n hx hb d_M_merit_14 rfl (lv_at hl 1 rfl) ?_
    refine x_cv (x_runV (na := 1) (k := 75) (As := [.int (nI o)]) (rest := []) (ci := 7) ⟨hx, hb, hml, hown, ht⟩ (m_M_rank o a n ho8 hdp hd10 hcd hn4 hs hK3 _) w_629 w_631 s_22 w_9 w_632 (by decide +kernel) ⟨rfl, rfl, by decide, by decide⟩ hw (by decide) o_M rfl rfl hl.1 rfl (Nat.le_of_ble_eq_true rfl) d_M_merit_15 ⟨Nat.zero_le _, Nat.zero_le _⟩) hw hA (fun u15 H locs hp hw => ?_)
    have hu15 : u15 = rankM u o a n := hp
    obtain ⟨⟨b, hb16, hb13⟩, hkc, -, -, hc8, hc9⟩ : OKN u u15 := hu15 ▸ rankM_ok u o a n hdp hcd
    refine lv_lconst (v := 0) hx hb d_M_merit_18 (by decide) ?_
    refine lv_lstore_n (lv' := [(3, .long 0), (0, .ref (ad 75)), (1, .int (nI o)), (2, .int z)]) hx hb d_M_merit_19 rfl hl (by decide) rfl (fun ls hl => ?_)
    refine lv_iconst (v := 0) hx hb d_M_merit_20 (by decide) ?_
    refine lv_istore (lv' := [(5, .int 0), (3, .long 0), (0, .ref (ad 75)), (1, .int (nI o)), (2, .int z)]) hx hb d_M_merit_21 hl (by decide) rfl (fun ls hl => ?_)
    have L23 : ∀ (n23 : Nat) (i : Nat), i ≤ b → b - i < n23 → ∀ (H : Heap) (locs : List Loc), XH D g ad (AX ad sz) s s.heap H locs u15 → ∀ ls : Array Slot, lv_has ls 10 [(5, .int (nI i)), (3, .long (meM u15 o z i)), (0, .ref (ad 75)), (1, .int (nI o)), (2, .int z)] → W p l e (rmN 3 83) s m ([.ref (ad 75), .int (nI o), .int z] : List Value).toArray below meth c H locs 0 0 (MQ below (va_Ql (fun v r => (v, r) = merM u (nI o) z a n) (XB D g ad sz) (AX ad sz)) ([.ref (ad 75), .int (nI o), .int z] : List Value).toArray s 0 0 (AX ad sz)) (F0 m 23 ls []) := by
      intro n23
      induction n23 with
      | zero => intro i h1 hz; exact absurd hz (by omega)
      | succ n23 ih23 =>
        intro i h1 hnL23 H locs hw ls hl
        refine lv_iload hx hb d_M_merit_23 (lv_at hl 0 rfl) ?_
        refine lv_aload_n hx hb d_M_merit_25 rfl (lv_at hl 2 rfl) ?_
        refine x_get (ci := 7) (k := 75) hx hb ht in_M hown hw (by decide) o_M rfl 17 (by decide) (ht _ w_503) rfl d_M_merit_26 ?_
        rw [show (u15.2.2.1 13) = (nI b) from hb13]
        refine lv_icmp_ge (tgt := 111) hx hb d_M_merit_29 (by decide) (fun c29 => ?_) (fun c29 => ?_)
        · have h29 : (b) ≤ (i) := (nI_leI (a := b) (b := i) (by omega) (by omega)).mp c29
          refine lv_lload_n hx hb d_M_merit_111 rfl (lv_at hl 1 rfl) ?_
          exact x_lret hsz hx hb hr hlk hw (by have e := nI_clamp (n := o) (by omega); unfold merM; rw [if_neg c6, e, ← hu15, hb13, nI_clamp (by omega), show i = b by omega]) d_M_merit_112
        · have h29 : ¬ (b) ≤ (i) := fun hz9 => c29 ((nI_leI (a := b) (b := i) (by omega) (by omega)).mpr hz9)
          refine lv_aload_n hx hb d_M_merit_32 rfl (lv_at hl 2 rfl) ?_
          refine x_get (ci := 7) (k := 75) hx hb ht in_M hown hw (by decide) o_M rfl 4 (by decide) (ht _ w_490) rfl d_M_merit_33 ?_
          refine lv_iload_n hx hb d_M_merit_36 rfl (lv_at hl 3 rfl) ?_
          refine lv_bipush (v := 16) hx hb d_M_merit_37 (by decide) ?_
          refine lv_imul hx hb d_M_merit_39 ?_
          rw [show ((nI o) * 16) = (nI (o * 16)) from pk_mul _ _]
          refine lv_iload_n hx hb d_M_merit_40 rfl (lv_at hl 4 rfl) ?_
          refine lv_if_eq (tgt := 54) hx hb d_M_merit_41 (by decide) (fun c41 => ?_) (fun c41 => ?_)
          · obtain ⟨j, hj16, hij⟩ := hc8 i (by omega)
            refine lv_aload_n hx hb d_M_merit_54 rfl (lv_at hl 2 rfl) ?_
            refine x_get (ci := 7) (k := 75) hx hb ht in_M hown hw (by decide) o_M rfl 15 (by decide) (ht _ w_501) rfl d_M_merit_55 ?_
            refine lv_iload hx hb d_M_merit_58 (lv_at hl 0 rfl) ?_
            refine x_iald (k := 88) hx hb hw (by decide) rfl (vin (N := 16) (by omega) rfl (by omega)) d_M_merit_60 ?_
            rw [nI_clamp (n := i) (by omega)]
            rw [show (u15.1 88 i) = (nI j) from hij]
            refine lv_iadd hx hb d_M_merit_61 ?_
            rw [show ((nI (o * 16)) + (nI j)) = (nI (o * 16 + j)) from nI_add _ _]
            refine x_iald (k := 80) hx hb hw (by decide) rfl (vin (N := 128) (by omega) rfl (by omega)) d_M_merit_62 ?_
            rw [nI_clamp (n := o * 16 + j) (by omega)]
            refine lv_istore (lv' := [(6, .int (u15.1 80 (o * 16 + j))), (5, .int (nI i)), (3, .long (meM u15 o z i)), (0, .ref (ad 75)), (1, .int (nI o)), (2, .int z)]) hx hb d_M_merit_63 hl (by decide) rfl (fun ls hl => ?_)
            have hg7 : (u15.1 80 (o * 16 + j)) ≤ 7 := by rw [hkc 80 (by decide) (by decide)]; exact hgr _ (by omega)
            refine lv_lconst (v := 0) hx hb d_M_merit_65 (by decide) ?_
            refine lv_lstore (lv' := [(7, .long 0), (6, .int (u15.1 80 (o * 16 + j))), (5, .int (nI i)), (3, .long (meM u15 o z i)), (0, .ref (ad 75)), (1, .int (nI o)), (2, .int z)]) hx hb d_M_merit_66 hl (by decide) rfl (fun ls hl => ?_)
            refine lv_iconst (v := 0) hx hb d_M_merit_68 (by decide) ?_
            refine lv_istore (lv' := [(9, .int 0), (7, .long 0), (6, .int (u15.1 80 (o * 16 + j))), (5, .int (nI i)), (3, .long (meM u15 o z i)), (0, .ref (ad 75)), (1, .int (nI o)), (2, .int z)]) hx hb d_M_merit_69 hl (by decide) rfl (fun ls hl => ?_)
            have L71 : ∀ (n71 : Nat) (k : Nat), k ≤ 7 → (k = 0 ∨ nI k ≤ (u15.1 80 (o * 16 + j))) → 8 - k < n71 → ∀ (H : Heap) (locs : List Loc), XH D g ad (AX ad sz) s s.heap H locs u15 → ∀ ls : Array Slot, lv_has ls 10 [(9, .int (nI k)), (7, .long (gnL k)), (6, .int (u15.1 80 (o * 16 + j))), (5, .int (nI i)), (3, .long (meM u15 o z i)), (0, .ref (ad 75)), (1, .int (nI o)), (2, .int z)] → W p l e (rmN 3 83) s m ([.ref (ad 75), .int (nI o), .int z] : List Value).toArray below meth c H locs 0 0 (MQ below (va_Ql (fun v r => (v, r) = merM u (nI o) z a n) (XB D g ad sz) (AX ad sz)) ([.ref (ad 75), .int (nI o), .int z] : List Value).toArray s 0 0 (AX ad sz)) (F0 m 71 ls []) := by
              intro n71
              induction n71 with
              | zero => intro k h7 hkg hz; exact absurd hz (by omega)
              | succ n71 ih71 =>
                intro k h7 hkg hnL71 H locs hw ls hl
                refine lv_iload hx hb d_M_merit_71 (lv_at hl 0 rfl) ?_
                refine lv_iload hx hb d_M_merit_73 (lv_at hl 2 rfl) ?_
                refine lv_icmp_ge (tgt := 94) hx hb d_M_merit_75 (by decide) (fun c75 => ?_) (fun c75 => ?_)
                · have hkc9 := clamp_exit hkg c75 (by omega)
                  refine lv_lload_n hx hb d_M_merit_94 rfl (lv_at hl 4 rfl) ?_
                  refine lv_lload hx hb d_M_merit_95 (lv_at hl 1 rfl) ?_
                  refine lv_bipush (v := 16) hx hb d_M_merit_97 (by decide) ?_
                  refine lv_iload hx hb d_M_merit_99 (lv_at hl 3 rfl) ?_
                  refine lv_isub hx hb d_M_merit_101 ?_
                  refine lv_lshl (v := ((gnL k) <<< (((16 - (nI i)) : Int32).toInt64 &&& 63))) hx hb d_M_merit_102 rfl ?_
                  refine lv_ladd hx hb d_M_merit_103 ?_
                  refine lv_lstore_n (lv' := [(3, .long ((meM u15 o z i) + ((gnL k) <<< (((16 - (nI i)) : Int32).toInt64 &&& 63)))), (9, .int (nI k)), (7, .long (gnL k)), (6, .int (u15.1 80 (o * 16 + j))), (5, .int (nI i)), (0, .ref (ad 75)), (1, .int (nI o)), (2, .int z)]) hx hb d_M_merit_104 rfl hl (by decide) rfl (fun ls hl => ?_)
                  refine lv_iinc (v := (nI (i + 1))) (lv' := [(5, .int (nI (i + 1))), (3, .long ((meM u15 o z i) + ((gnL k) <<< (((16 - (nI i)) : Int32).toInt64 &&& 63)))), (9, .int (nI k)), (7, .long (gnL k)), (6, .int (u15.1 80 (o * 16 + j))), (0, .ref (ad 75)), (1, .int (nI o)), (2, .int z)]) hx hb d_M_merit_105 hl (k := 4) rfl (nI_1 _) (by decide) rfl (fun ls hl => ?_)
                  refine lv_goto (tgt := 23) hx hb d_M_merit_108 (by decide) ?_
                  exact ih23 (i + 1) (by omega) (by omega) _ _ hw ls (by rw [← (show ((meM u15 o z i) + ((gnL k) <<< (((16 - (nI i)) : Int32).toInt64 &&& 63))) = (meM u15 o z (i + 1)) from (by simp only [meM]; first | (rw [if_pos c41, hij, nI_clamp (by omega), hkc9]; done) | (rw [if_neg c41, hij, nI_clamp (by omega), hkc9]; done)))]; exact lv_sub hl [0, 1, 5, 6, 7] rfl)
                · have hk7 : k < 7 := lt7 hg7 c75 h7
                  refine lv_ldc2 (v := 2) hx hb hown (ht _ w_654) d_M_merit_78 ?_
                  refine lv_lload hx hb d_M_merit_81 (lv_at hl 1 rfl) ?_
                  refine lv_lmul hx hb d_M_merit_83 ?_
                  refine lv_lconst (v := 1) hx hb d_M_merit_84 (by decide) ?_
                  refine lv_ladd hx hb d_M_merit_85 ?_
                  refine lv_lstore (lv' := [(7, .long ((2 * (gnL k)) + 1)), (9, .int (nI k)), (6, .int (u15.1 80 (o * 16 + j))), (5, .int (nI i)), (3, .long (meM u15 o z i)), (0, .ref (ad 75)), (1, .int (nI o)), (2, .int z)]) hx hb d_M_merit_86 hl (by decide) rfl (fun ls hl => ?_)
                  refine lv_iinc (v := (nI (k + 1))) (lv' := [(9, .int (nI (k + 1))), (7, .long ((2 * (gnL k)) + 1)), (6, .int (u15.1 80 (o * 16 + j))), (5, .int (nI i)), (3, .long (meM u15 o z i)), (0, .ref (ad 75)), (1, .int (nI o)), (2, .int z)]) hx hb d_M_merit_88 hl (k := 1) rfl (nI_1 _) (by decide) rfl (fun ls hl => ?_)
                  refine lv_goto (tgt := 71) hx hb d_M_merit_91 (by decide) ?_
                  exact ih71 (k + 1) (by omega) (Or.inr (le_succ9 c75 hk7)) (by omega) _ _ hw ls (lv_sub hl [0, 1, 2, 3, 4, 5, 6, 7] rfl)
            exact L71 ((8 - 0) + 1) (0) (by omega) (Or.inl rfl) (by omega) _ _ hw ls (lv_sub hl [0, 1, 2, 3, 4, 5, 6, 7] rfl)
          · obtain ⟨j, hj16, hij⟩ := hc9 hld i (by omega)
            refine lv_aload_n hx hb d_M_merit_44 rfl (lv_at hl 2 rfl) ?_
            refine x_get (ci := 7) (k := 75) hx hb ht in_M hown hw (by decide) o_M rfl 16 (by decide) (ht _ w_502) rfl d_M_merit_45 ?_
            refine lv_iload hx hb d_M_merit_48 (lv_at hl 0 rfl) ?_
            refine x_iald (k := 89) hx hb hw (by decide) rfl (vin (N := 16) (by omega) rfl (by omega)) d_M_merit_50 ?_
            rw [nI_clamp (n := i) (by omega)]
            rw [show (u15.1 89 i) = (nI j) from hij]
            refine lv_goto (tgt := 61) hx hb d_M_merit_51 (by decide) ?_
            refine lv_iadd hx hb d_M_merit_61 ?_
            rw [show ((nI (o * 16)) + (nI j)) = (nI (o * 16 + j)) from nI_add _ _]
            refine x_iald (k := 80) hx hb hw (by decide) rfl (vin (N := 128) (by omega) rfl (by omega)) d_M_merit_62 ?_
            rw [nI_clamp (n := o * 16 + j) (by omega)]
            refine lv_istore (lv' := [(6, .int (u15.1 80 (o * 16 + j))), (5, .int (nI i)), (3, .long (meM u15 o z i)), (0, .ref (ad 75)), (1, .int (nI o)), (2, .int z)]) hx hb d_M_merit_63 hl (by decide) rfl (fun ls hl => ?_)
            have hg7 : (u15.1 80 (o * 16 + j)) ≤ 7 := by rw [hkc 80 (by decide) (by decide)]; exact hgr _ (by omega)
            refine lv_lconst (v := 0) hx hb d_M_merit_65 (by decide) ?_
            refine lv_lstore (lv' := [(7, .long 0), (6, .int (u15.1 80 (o * 16 + j))), (5, .int (nI i)), (3, .long (meM u15 o z i)), (0, .ref (ad 75)), (1, .int (nI o)), (2, .int z)]) hx hb d_M_merit_66 hl (by decide) rfl (fun ls hl => ?_)
            refine lv_iconst (v := 0) hx hb d_M_merit_68 (by decide) ?_
            refine lv_istore (lv' := [(9, .int 0), (7, .long 0), (6, .int (u15.1 80 (o * 16 + j))), (5, .int (nI i)), (3, .long (meM u15 o z i)), (0, .ref (ad 75)), (1, .int (nI o)), (2, .int z)]) hx hb d_M_merit_69 hl (by decide) rfl (fun ls hl => ?_)
            have L71 : ∀ (n71 : Nat) (k : Nat), k ≤ 7 → (k = 0 ∨ nI k ≤ (u15.1 80 (o * 16 + j))) → 8 - k < n71 → ∀ (H : Heap) (locs : List Loc), XH D g ad (AX ad sz) s s.heap H locs u15 → ∀ ls : Array Slot, lv_has ls 10 [(9, .int (nI k)), (7, .long (gnL k)), (6, .int (u15.1 80 (o * 16 + j))), (5, .int (nI i)), (3, .long (meM u15 o z i)), (0, .ref (ad 75)), (1, .int (nI o)), (2, .int z)] → W p l e (rmN 3 83) s m ([.ref (ad 75), .int (nI o), .int z] : List Value).toArray below meth c H locs 0 0 (MQ below (va_Ql (fun v r => (v, r) = merM u (nI o) z a n) (XB D g ad sz) (AX ad sz)) ([.ref (ad 75), .int (nI o), .int z] : List Value).toArray s 0 0 (AX ad sz)) (F0 m 71 ls []) := by
              intro n71
              induction n71 with
              | zero => intro k h7 hkg hz; exact absurd hz (by omega)
              | succ n71 ih71 =>
                intro k h7 hkg hnL71 H locs hw ls hl
                refine lv_iload hx hb d_M_merit_71 (lv_at hl 0 rfl) ?_
                refine lv_iload hx hb d_M_merit_73 (lv_at hl 2 rfl) ?_
                refine lv_icmp_ge (tgt := 94) hx hb d_M_merit_75 (by decide) (fun c75 => ?_) (fun c75 => ?_)
                · have hkc9 := clamp_exit hkg c75 (by omega)
                  refine lv_lload_n hx hb d_M_merit_94 rfl (lv_at hl 4 rfl) ?_
                  refine lv_lload hx hb d_M_merit_95 (lv_at hl 1 rfl) ?_
                  refine lv_bipush (v := 16) hx hb d_M_merit_97 (by decide) ?_
                  refine lv_iload hx hb d_M_merit_99 (lv_at hl 3 rfl) ?_
                  refine lv_isub hx hb d_M_merit_101 ?_
                  refine lv_lshl (v := ((gnL k) <<< (((16 - (nI i)) : Int32).toInt64 &&& 63))) hx hb d_M_merit_102 rfl ?_
                  refine lv_ladd hx hb d_M_merit_103 ?_
                  refine lv_lstore_n (lv' := [(3, .long ((meM u15 o z i) + ((gnL k) <<< (((16 - (nI i)) : Int32).toInt64 &&& 63)))), (9, .int (nI k)), (7, .long (gnL k)), (6, .int (u15.1 80 (o * 16 + j))), (5, .int (nI i)), (0, .ref (ad 75)), (1, .int (nI o)), (2, .int z)]) hx hb d_M_merit_104 rfl hl (by decide) rfl (fun ls hl => ?_)
                  refine lv_iinc (v := (nI (i + 1))) (lv' := [(5, .int (nI (i + 1))), (3, .long ((meM u15 o z i) + ((gnL k) <<< (((16 - (nI i)) : Int32).toInt64 &&& 63)))), (9, .int (nI k)), (7, .long (gnL k)), (6, .int (u15.1 80 (o * 16 + j))), (0, .ref (ad 75)), (1, .int (nI o)), (2, .int z)]) hx hb d_M_merit_105 hl (k := 4) rfl (nI_1 _) (by decide) rfl (fun ls hl => ?_)
                  refine lv_goto (tgt := 23) hx hb d_M_merit_108 (by decide) ?_
                  exact ih23 (i + 1) (by omega) (by omega) _ _ hw ls (by rw [← (show ((meM u15 o z i) + ((gnL k) <<< (((16 - (nI i)) : Int32).toInt64 &&& 63))) = (meM u15 o z (i + 1)) from (by simp only [meM]; first | (rw [if_pos c41, hij, nI_clamp (by omega), hkc9]; done) | (rw [if_neg c41, hij, nI_clamp (by omega), hkc9]; done)))]; exact lv_sub hl [0, 1, 5, 6, 7] rfl)
                · have hk7 : k < 7 := lt7 hg7 c75 h7
                  refine lv_ldc2 (v := 2) hx hb hown (ht _ w_654) d_M_merit_78 ?_
                  refine lv_lload hx hb d_M_merit_81 (lv_at hl 1 rfl) ?_
                  refine lv_lmul hx hb d_M_merit_83 ?_
                  refine lv_lconst (v := 1) hx hb d_M_merit_84 (by decide) ?_
                  refine lv_ladd hx hb d_M_merit_85 ?_
                  refine lv_lstore (lv' := [(7, .long ((2 * (gnL k)) + 1)), (9, .int (nI k)), (6, .int (u15.1 80 (o * 16 + j))), (5, .int (nI i)), (3, .long (meM u15 o z i)), (0, .ref (ad 75)), (1, .int (nI o)), (2, .int z)]) hx hb d_M_merit_86 hl (by decide) rfl (fun ls hl => ?_)
                  refine lv_iinc (v := (nI (k + 1))) (lv' := [(9, .int (nI (k + 1))), (7, .long ((2 * (gnL k)) + 1)), (6, .int (u15.1 80 (o * 16 + j))), (5, .int (nI i)), (3, .long (meM u15 o z i)), (0, .ref (ad 75)), (1, .int (nI o)), (2, .int z)]) hx hb d_M_merit_88 hl (k := 1) rfl (nI_1 _) (by decide) rfl (fun ls hl => ?_)
                  refine lv_goto (tgt := 71) hx hb d_M_merit_91 (by decide) ?_
                  exact ih71 (k + 1) (by omega) (Or.inr (le_succ9 c75 hk7)) (by omega) _ _ hw ls (lv_sub hl [0, 1, 2, 3, 4, 5, 6, 7] rfl)
            exact L71 ((8 - 0) + 1) (0) (by omega) (Or.inl rfl) (by omega) _ _ hw ls (lv_sub hl [0, 1, 2, 3, 4, 5, 6, 7] rfl)
    exact L23 ((b - 0) + 1) (0) (by omega) (by omega) _ _ hw ls (lv_sub hl [0, 1, 2, 3, 4] rfl)
  · refine lv_ldc2 (v := (-1000000000000000)) hx hb hown (ht _ w_649) d_M_merit_9 ?_
    exact x_lret hsz hx hb hr hlk hw (by simp [merM, c6]) d_M_merit_12)
