def walkM (u : St) (q d t : Nat) : Nat → Nat → Nat
  | 0, j => j
  | l + 1, j => if u.1 81 (t * 7 + j) = 2 then walkM u q d t l (if featF (fun i => u.1 78 (d * 12 + i)) (u.1 79 q) (u.1 77 d) (u.1 82 (t * 7 + j)) ≤ u.1 83 (t * 7 + j) then 2 * j + 1 else 2 * j + 2) else j
theorem walkM_n {u : St} {q d t l j : Nat} (h : ¬ u.1 81 (t * 7 + j) = 2) : walkM u q d t l j = j := by
  cases l with
  | zero => rfl
  | succ l => exact if_neg h
def scM (u : St) (q d : Nat) : Nat → Int64
  | 0 => 0
  | t + 1 => scM u q d t + u.2.1 84 (t * 7 + walkM u q d t 2 0)
def scoM (u : St) (q d : Int32) (n : Nat) : Int64 × St := if inF q 8 = 0 then (-1000000000000000, u) else if isThF u d = 0 then (-1000000000000000, u) else (scM u q.toNatClampNeg d.toNatClampNeg n, u)
theorem in_ix {x : Int32} {n : Nat} (hn9 : n ≤ 4) (h : ¬ inF x (nI n) = 0) : ∃ j : Nat, j < n ∧ x = nI j := vp_in_of (in_in (N := n) h rfl (by omega)) (by omega)
def nodM (u : St) (x y z : Int32) (n : Nat) : Int64 × St := if inF x (nI n) = 0 then (-1000000000000000, u) else if inF y 7 = 0 then (-1000000000000000, u) else if inF z 3 = 0 then (-1000000000000000, u) else
  if u.1 81 (x.toNatClampNeg * 7 + y.toNatClampNeg) = 0 then (-1000000000000000, u) else
  if z = 2 then (if u.1 81 (x.toNatClampNeg * 7 + y.toNatClampNeg) = 1 then (u.2.1 84 (x.toNatClampNeg * 7 + y.toNatClampNeg), u) else (-1000000000000000, u)) else
  if u.1 81 (x.toNatClampNeg * 7 + y.toNatClampNeg) = 1 then (-1, u) else if z = 0 then ((u.1 82 (x.toNatClampNeg * 7 + y.toNatClampNeg)).toInt64, u) else ((u.1 83 (x.toNatClampNeg * 7 + y.toNatClampNeg)).toInt64, u)
theorem nI_pos9 (j : Nat) (h : j < 128) : 0 ≤ nI j := nI_pos' (by omega)
theorem pairF_ix {f : Nat → Int32} {i : Int32} : ∀ (n t : Nat), t + n ≤ 128 → 0 ≤ pairF f i n t → ∃ j : Nat, j < 128 ∧ pairF f i n t = nI j := by
  intro n
  induction n with
  | zero => intro t _ h; exact absurd h (show ¬ (0 : Int32) ≤ -1 by decide)
  | succ n ih =>
    intro t ht h
    simp only [pairF] at h ⊢
    split
    · rename_i c; rw [if_pos c] at h; exact ih (t + 1) (by omega) h
    · rename_i c
      rw [if_neg c] at h
      split
      · exact ⟨t, by omega, rfl⟩
      · rename_i c2; rw [if_neg c2] at h; exact ih (t + 1) (by omega) h
def rstX (u : St) (i : Int32) (n : Nat) : Int64 × St := if 0 ≤ pairF (u.1 12) i 128 0 then
  (if holdsF u (nI ((pairF (u.1 12) i 128 0).toNatClampNeg % 16)) = 0 then (-1000000000000000, u) else
   (65536 * (u.1 12 ((pairF (u.1 12) i 128 0).toNatClampNeg / 16 * 16 + (pairF (u.1 12) i 128 0).toNatClampNeg % 16)).toInt64 - scoreF (measF u ((pairF (u.1 12) i 128 0).toNatClampNeg % 16) (u.1 2 ((pairF (u.1 12) i 128 0).toNatClampNeg / 16))) 8 n, measF u ((pairF (u.1 12) i 128 0).toNatClampNeg % 16) (u.1 2 ((pairF (u.1 12) i 128 0).toNatClampNeg / 16)))) else (-1000000000000000, u)
set_option maxHeartbeats 4000000 in
set_option maxRecDepth 100000 in
theorem m_M_scoreOf {l : Launch} {D : va_G} {g : Ids} {ad : Nat → Nat} {u : St} (q : Nat) (d : Nat) (n : Nat) (hq : q < 8) (hd : d < 16) (hn4 : n ≤ 4) (hs : u.2.2.1 11 = nI n) (hK3 : ∀ t, t < n → ∀ j, j < 7 → u.1 81 (t * 7 + j) = 2 → j < 3) : XMl l D g ad y_M_scoreOf b_M_scoreOf 7 ((some .long)) (rmN 1 29) [.ref (ad 75), .int (nI q), .int (nI d)] u (fun v w => v = scM u q d n ∧ w = u) := fun sz => x_met (by decide) (Nat.le_of_ble_eq_true rfl) (fun p e s m below meth c hsz hx hb hr hml hown ht hlk hw ls hl => by
  have hA : ∀ q, s.heap.size ≤ q → AX ad sz q := fun q h => Or.inr (hsz ▸ h)
  have hl : lv_has ls 7 [(0, .ref (ad 75)), (1, .int (nI q)), (2, .int (nI d))] := hl
  refine lv_lconst (v := 0) hx hb d_M_scoreOf_0 (by decide) ?_
  refine lv_lstore_n (lv' := [(3, .long 0), (0, .ref (ad 75)), (1, .int (nI q)), (2, .int (nI d))]) hx hb d_M_scoreOf_1 rfl hl (by decide) rfl (fun ls hl => ?_)
  refine lv_iconst (v := 0) hx hb d_M_scoreOf_2 (by decide) ?_
  refine lv_istore (lv' := [(5, .int 0), (3, .long 0), (0, .ref (ad 75)), (1, .int (nI q)), (2, .int (nI d))]) hx hb d_M_scoreOf_3 hl (by decide) rfl (fun ls hl => ?_)
  have L5 : ∀ (n5 : Nat) (t : Nat), t ≤ n → n - t < n5 → ∀ (H : Heap) (locs : List Loc), XH D g ad (AX ad sz) s s.heap H locs u → ∀ ls : Array Slot, lv_has ls 7 [(5, .int (nI t)), (3, .long (scM u q d t)), (0, .ref (ad 75)), (1, .int (nI q)), (2, .int (nI d))] → W p l e (rmN 1 29) s m ([.ref (ad 75), .int (nI q), .int (nI d)] : List Value).toArray below meth c H locs 0 0 (MQ below (va_Ql (fun v w => v = scM u q d n ∧ w = u) (XB D g ad sz) (AX ad sz)) ([.ref (ad 75), .int (nI q), .int (nI d)] : List Value).toArray s 0 0 (AX ad sz)) (F0 m 5 ls []) := by
    intro n5
    induction n5 with
    | zero => intro t ht9 hz; exact absurd hz (by omega)
    | succ n5 ih5 =>
      intro t ht9 hnL5 H locs hw ls hl
      refine lv_iload hx hb d_M_scoreOf_5 (lv_at hl 0 rfl) ?_
      refine lv_aload_n hx hb d_M_scoreOf_7 rfl (lv_at hl 2 rfl) ?_
      refine x_get (ci := 7) (k := 75) hx hb ht in_M hown hw (by decide) o_M rfl 10 (by decide) (ht _ w_496) rfl d_M_scoreOf_8 ?_
      rw [show (u.2.2.1 11) = (nI n) from hs]
      refine lv_icmp_ge (tgt := 111) hx hb d_M_scoreOf_11 (by decide) (fun c11 => ?_) (fun c11 => ?_)
      · have h11 : (n) ≤ (t) := (nI_leI (a := n) (b := t) (by omega) (by omega)).mp c11
        refine lv_lload_n hx hb d_M_scoreOf_111 rfl (lv_at hl 1 rfl) ?_
        exact x_lret hsz hx hb hr hlk hw ⟨by rw [show t = n by omega], rfl⟩ d_M_scoreOf_112
      · have h11 : ¬ (n) ≤ (t) := fun hz9 => c11 ((nI_leI (a := n) (b := t) (by omega) (by omega)).mpr hz9)
        refine lv_iconst (v := 0) hx hb d_M_scoreOf_14 (by decide) ?_
        refine lv_istore (lv' := [(6, .int 0), (5, .int (nI t)), (3, .long (scM u q d t)), (0, .ref (ad 75)), (1, .int (nI q)), (2, .int (nI d))]) hx hb d_M_scoreOf_15 hl (by decide) rfl (fun ls hl => ?_)
        have L17 : ∀ (n17 : Nat) (i : Nat) (j : Nat), i ≤ 2 → ((i = 0 ∧ j = 0) ∨ (i = 1 ∧ 1 ≤ j ∧ j < 3) ∨ (i = 2 ∧ 3 ≤ j ∧ j < 7)) → walkM u q d t (2 - i) j = walkM u q d t 2 0 → 2 - i < n17 → ∀ (H : Heap) (locs : List Loc), XH D g ad (AX ad sz) s s.heap H locs u → ∀ ls : Array Slot, lv_has ls 7 [(6, .int (nI j)), (5, .int (nI t)), (3, .long (scM u q d t)), (0, .ref (ad 75)), (1, .int (nI q)), (2, .int (nI d))] → W p l e (rmN 1 29) s m ([.ref (ad 75), .int (nI q), .int (nI d)] : List Value).toArray below meth c H locs 0 0 (MQ below (va_Ql (fun v w => v = scM u q d n ∧ w = u) (XB D g ad sz) (AX ad sz)) ([.ref (ad 75), .int (nI q), .int (nI d)] : List Value).toArray s 0 0 (AX ad sz)) (F0 m 17 ls []) := by
          intro n17
          induction n17 with
          | zero => intro i j hi hb2 hv hz; exact absurd hz (by omega)
          | succ n17 ih17 =>
            intro i j hi hb2 hv hnL17 H locs hw ls hl
            refine lv_aload_n hx hb d_M_scoreOf_17 rfl (lv_at hl 3 rfl) ?_
            refine x_get (ci := 7) (k := 75) hx hb ht in_M hown hw (by decide) o_M rfl 6 (by decide) (ht _ w_492) rfl d_M_scoreOf_18 ?_
            refine lv_iload hx hb d_M_scoreOf_21 (lv_at hl 1 rfl) ?_
            refine lv_bipush (v := 7) hx hb d_M_scoreOf_23 (by decide) ?_
            refine lv_imul hx hb d_M_scoreOf_25 ?_
            rw [show ((nI t) * 7) = (nI (t * 7)) from pk_mul _ _]
            refine lv_iload hx hb d_M_scoreOf_26 (lv_at hl 0 rfl) ?_
            refine lv_iadd hx hb d_M_scoreOf_28 ?_
            rw [show ((nI (t * 7)) + (nI j)) = (nI (t * 7 + j)) from nI_add _ _]
            refine x_iald (k := 81) hx hb hw (by decide) rfl (vin (N := 28) (by omega) rfl (by omega)) d_M_scoreOf_29 ?_
            rw [nI_clamp (n := t * 7 + j) (by omega)]
            refine lv_iconst (v := 2) hx hb d_M_scoreOf_30 (by decide) ?_
            refine lv_icmp_ne (tgt := 89) hx hb d_M_scoreOf_31 (by decide) (fun c31 => ?_) (fun c31 => ?_)
            · refine lv_lload_n hx hb d_M_scoreOf_89 rfl (lv_at hl 2 rfl) ?_
              refine lv_aload_n hx hb d_M_scoreOf_90 rfl (lv_at hl 3 rfl) ?_
              refine x_get (ci := 7) (k := 75) hx hb ht in_M hown hw (by decide) o_M rfl 9 (by decide) (ht _ w_495) rfl d_M_scoreOf_91 ?_
              refine lv_iload hx hb d_M_scoreOf_94 (lv_at hl 1 rfl) ?_
              refine lv_bipush (v := 7) hx hb d_M_scoreOf_96 (by decide) ?_
              refine lv_imul hx hb d_M_scoreOf_98 ?_
              rw [show ((nI t) * 7) = (nI (t * 7)) from pk_mul _ _]
              refine lv_iload hx hb d_M_scoreOf_99 (lv_at hl 0 rfl) ?_
              refine lv_iadd hx hb d_M_scoreOf_101 ?_
              rw [show ((nI (t * 7)) + (nI j)) = (nI (t * 7 + j)) from nI_add _ _]
              refine x_lald (k := 84) hx hb hw (by decide) rfl (vin (N := 28) (by omega) rfl (by omega)) d_M_scoreOf_102 ?_
              rw [nI_clamp (n := t * 7 + j) (by omega)]
              refine lv_ladd hx hb d_M_scoreOf_103 ?_
              refine lv_lstore_n (lv' := [(3, .long ((scM u q d t) + (u.2.1 84 (t * 7 + j)))), (6, .int (nI j)), (5, .int (nI t)), (0, .ref (ad 75)), (1, .int (nI q)), (2, .int (nI d))]) hx hb d_M_scoreOf_104 rfl hl (by decide) rfl (fun ls hl => ?_)
              refine lv_iinc (v := (nI (t + 1))) (lv' := [(5, .int (nI (t + 1))), (3, .long ((scM u q d t) + (u.2.1 84 (t * 7 + j)))), (6, .int (nI j)), (0, .ref (ad 75)), (1, .int (nI q)), (2, .int (nI d))]) hx hb d_M_scoreOf_105 hl (k := 2) rfl (nI_1 _) (by decide) rfl (fun ls hl => ?_)
              refine lv_goto (tgt := 5) hx hb d_M_scoreOf_108 (by decide) ?_
              exact ih5 (t + 1) (by omega) (by omega) _ _ hw ls (by rw [← (show ((scM u q d t) + (u.2.1 84 (t * 7 + j))) = (scM u q d (t + 1)) from (by show _ = scM u q d t + _; rw [← hv, walkM_n c31]))]; exact lv_sub hl [0, 1, 3, 4, 5] rfl)
            · have hj3 := hK3 t (by omega) j (by omega) c31
              have hi2 : i < 2 := by omega
              refine lv_aload_n hx hb d_M_scoreOf_34 rfl (lv_at hl 3 rfl) ?_
              refine lv_iload_n hx hb d_M_scoreOf_35 rfl (lv_at hl 4 rfl) ?_
              refine lv_iload_n hx hb d_M_scoreOf_36 rfl (lv_at hl 5 rfl) ?_
              refine lv_aload_n hx hb d_M_scoreOf_37 rfl (lv_at hl 3 rfl) ?_
              refine x_get (ci := 7) (k := 75) hx hb ht in_M hown hw (by decide) o_M rfl 7 (by decide) (ht _ w_493) rfl d_M_scoreOf_38 ?_
              refine lv_iload hx hb d_M_scoreOf_41 (lv_at hl 1 rfl) ?_
              refine lv_bipush (v := 7) hx hb d_M_scoreOf_43 (by decide) ?_
              refine lv_imul hx hb d_M_scoreOf_45 ?_
              rw [show ((nI t) * 7) = (nI (t * 7)) from pk_mul _ _]
              refine lv_iload hx hb d_M_scoreOf_46 (lv_at hl 0 rfl) ?_
              refine lv_iadd hx hb d_M_scoreOf_48 ?_
              rw [show ((nI (t * 7)) + (nI j)) = (nI (t * 7 + j)) from nI_add _ _]
              refine x_iald (k := 82) hx hb hw (by decide) rfl (vin (N := 28) (by omega) rfl (by omega)) d_M_scoreOf_49 ?_
              rw [nI_clamp (n := t * 7 + j) (by omega)]
              refine x_ci (x_runV (na := 3) (k := 75) (As := [.int (nI q), .int (nI d), .int (u.1 82 (t * 7 + j))]) (rest := []) (ci := 7) ⟨hx, hb, hml, hown, ht⟩ (m_M_featureOf q d (u.1 82 (t * 7 + j)) hq hd _) w_589 w_591 s_15 w_9 w_592 (by decide +kernel) ⟨rfl, rfl, by decide, by decide⟩ hw (by decide) o_M rfl rfl hl.1 rfl (Nat.le_of_ble_eq_true rfl) d_M_scoreOf_50 ⟨Nat.zero_le _, Nat.zero_le _⟩) hw hA (fun v50 u50 H locs hp hw => ?_)
              obtain ⟨hv9, hu⟩ := hp
              subst hv9
              have hu := hu.symm
              subst hu
              refine lv_aload_n hx hb d_M_scoreOf_53 rfl (lv_at hl 3 rfl) ?_
              refine x_get (ci := 7) (k := 75) hx hb ht in_M hown hw (by decide) o_M rfl 8 (by decide) (ht _ w_494) rfl d_M_scoreOf_54 ?_
              refine lv_iload hx hb d_M_scoreOf_57 (lv_at hl 1 rfl) ?_
              refine lv_bipush (v := 7) hx hb d_M_scoreOf_59 (by decide) ?_
              refine lv_imul hx hb d_M_scoreOf_61 ?_
              rw [show ((nI t) * 7) = (nI (t * 7)) from pk_mul _ _]
              refine lv_iload hx hb d_M_scoreOf_62 (lv_at hl 0 rfl) ?_
              refine lv_iadd hx hb d_M_scoreOf_64 ?_
              rw [show ((nI (t * 7)) + (nI j)) = (nI (t * 7 + j)) from nI_add _ _]
              refine x_iald (k := 83) hx hb hw (by decide) rfl (vin (N := 28) (by omega) rfl (by omega)) d_M_scoreOf_65 ?_
              rw [nI_clamp (n := t * 7 + j) (by omega)]
              refine lv_icmp_le (tgt := 78) hx hb d_M_scoreOf_66 (by decide) (fun c66 => ?_) (fun c66 => ?_)
              · refine lv_iconst (v := 2) hx hb d_M_scoreOf_78 (by decide) ?_
                refine lv_iload hx hb d_M_scoreOf_79 (lv_at hl 0 rfl) ?_
                refine lv_imul hx hb d_M_scoreOf_81 ?_
                rw [show (2 * (nI j)) = (nI (2 * j)) from pk_mul _ _]
                refine lv_iconst (v := 1) hx hb d_M_scoreOf_82 (by decide) ?_
                refine lv_iadd hx hb d_M_scoreOf_83 ?_
                rw [show ((nI (2 * j)) + 1) = (nI (2 * j + 1)) from nI_add _ _]
                refine lv_istore (lv' := [(6, .int (nI (2 * j + 1))), (5, .int (nI t)), (3, .long (scM u q d t)), (0, .ref (ad 75)), (1, .int (nI q)), (2, .int (nI d))]) hx hb d_M_scoreOf_84 hl (by decide) rfl (fun ls hl => ?_)
                refine lv_goto (tgt := 17) hx hb d_M_scoreOf_86 (by decide) ?_
                exact ih17 (i + 1) (2 * j + 1) (by omega) (by omega) (by rw [← hv, show 2 - i = 2 - (i + 1) + 1 by omega]; simp only [walkM]; rw [if_pos c31]; first | rw [if_pos c66] | rw [if_neg c66]) (by omega) _ _ hw ls (lv_sub hl [0, 1, 2, 3, 4, 5] rfl)
              · refine lv_iconst (v := 2) hx hb d_M_scoreOf_69 (by decide) ?_
                refine lv_iload hx hb d_M_scoreOf_70 (lv_at hl 0 rfl) ?_
                refine lv_imul hx hb d_M_scoreOf_72 ?_
                rw [show (2 * (nI j)) = (nI (2 * j)) from pk_mul _ _]
                refine lv_iconst (v := 2) hx hb d_M_scoreOf_73 (by decide) ?_
                refine lv_iadd hx hb d_M_scoreOf_74 ?_
                rw [show ((nI (2 * j)) + 2) = (nI (2 * j + 2)) from nI_add _ _]
                refine lv_goto (tgt := 84) hx hb d_M_scoreOf_75 (by decide) ?_
                refine lv_istore (lv' := [(6, .int (nI (2 * j + 2))), (5, .int (nI t)), (3, .long (scM u q d t)), (0, .ref (ad 75)), (1, .int (nI q)), (2, .int (nI d))]) hx hb d_M_scoreOf_84 hl (by decide) rfl (fun ls hl => ?_)
                refine lv_goto (tgt := 17) hx hb d_M_scoreOf_86 (by decide) ?_
                exact ih17 (i + 1) (2 * j + 2) (by omega) (by omega) (by rw [← hv, show 2 - i = 2 - (i + 1) + 1 by omega]; simp only [walkM]; rw [if_pos c31]; first | rw [if_pos c66] | rw [if_neg c66]) (by omega) _ _ hw ls (lv_sub hl [0, 1, 2, 3, 4, 5] rfl)
        exact L17 ((2 - 0) + 1) (0) (0) (by omega) (Or.inl ⟨rfl, rfl⟩) (rfl) (by omega) _ _ hw ls (lv_sub hl [0, 1, 2, 3, 4, 5] rfl)
  exact L5 ((n - 0) + 1) (0) (by omega) (by omega) _ _ hw ls (lv_sub hl [0, 1, 2, 3, 4] rfl))
set_option maxHeartbeats 4000000 in
set_option maxRecDepth 100000 in
theorem m_M_score {l : Launch} {D : va_G} {g : Ids} {ad : Nat → Nat} {u : St} (q : Int32) (d : Int32) (n : Nat) (hn4 : n ≤ 4) (hs : u.2.2.1 11 = nI n) (hK3 : ∀ t, t < n → ∀ j, j < 7 → u.1 81 (t * 7 + j) = 2 → j < 3) : XMl l D g ad y_M_score b_M_score 3 ((some .long)) (rmN 2 55) [.ref (ad 75), .int q, .int d] u (fun v w => (v, w) = scoM u q d n) := fun sz => x_met (by decide) (Nat.le_of_ble_eq_true rfl) (fun p e s m below meth c hsz hx hb hr hml hown ht hlk hw ls hl => by
  have hA : ∀ q, s.heap.size ≤ q → AX ad sz q := fun q h => Or.inr (hsz ▸ h)
  have hl : lv_has ls 3 [(0, .ref (ad 75)), (1, .int q), (2, .int d)] := hl
  refine lv_iload_n hx hb d_M_score_0 rfl (lv_at hl 1 rfl) ?_
  refine lv_bipush (v := 8) hx hb d_M_score_1 (by decide) ?_
  refine x_ci (x_runS (na := 2) (As := [.int q, .int 8]) (rest := []) ⟨hx, hb, hml, hown, ht⟩ (m_M_in q 8 _) w_554 w_555 w_9 w_556 (by decide +kernel) ⟨rfl, rfl, by decide, by decide⟩ hw rfl hl.1 rfl (Nat.le_of_ble_eq_true rfl) d_M_score_3 ⟨Nat.zero_le _, Nat.zero_le _⟩) hw hA (fun v3 u3 H locs hp hw => ?_)
  obtain ⟨hv9, hu⟩ := hp
  subst hv9
  have hu := hu.symm
  subst hu
  refine lv_if_eq (tgt := 17) hx hb d_M_score_6 (by decide) (fun c6 => ?_) (fun c6 => ?_)
  · refine lv_ldc2 (v := (-1000000000000000)) hx hb hown (ht _ w_649) d_M_score_17 ?_
    refine lv_goto (tgt := 29) hx hb d_M_score_20 (by decide) ?_
    exact x_lret hsz hx hb hr hlk hw (by simp [scoM, c6]) d_M_score_29
  · refine lv_aload_n hx hb d_M_score_9 rfl (lv_at hl 0 rfl) ?_
    refine lv_iload_n hx hb d_M_score_10 rfl (lv_at hl 2 rfl) ?_
    refine x_ci (x_runV (na := 1) (k := 75) (As := [.int d]) (rest := []) (ci := 7) ⟨hx, hb, hml, hown, ht⟩ (m_M_isThere d _) w_561 w_563 s_13 w_9 w_564 (by decide +kernel) ⟨rfl, rfl, by decide, by decide⟩ hw (by decide) o_M rfl rfl hl.1 rfl (Nat.le_of_ble_eq_true rfl) d_M_score_11 ⟨Nat.zero_le _, Nat.zero_le _⟩) hw hA (fun v11 u11 H locs hp hw => ?_)
    obtain ⟨hv9, hu⟩ := hp
    subst hv9
    have hu := hu.symm
    subst hu
    refine lv_if_ne (tgt := 23) hx hb d_M_score_14 (by decide) (fun c14 => ?_) (fun c14 => ?_)
    · obtain ⟨i, hi, rfl⟩ : ∃ j : Nat, j < 8 ∧ q = nI j := vp_in_of (in_in (N := 8) c6) (by decide)
      obtain ⟨j, hj, rfl⟩ : ∃ j : Nat, j < 16 ∧ d = nI j := vp_in_of (isTh_in c14) (by decide)
      refine lv_aload_n hx hb d_M_score_23 rfl (lv_at hl 0 rfl) ?_
      refine lv_iload_n hx hb d_M_score_24 rfl (lv_at hl 1 rfl) ?_
      refine lv_iload_n hx hb d_M_score_25 rfl (lv_at hl 2 rfl) ?_
      refine x_cl (x_runV (na := 2) (k := 75) (As := [.int (nI i), .int (nI j)]) (rest := []) (ci := 7) ⟨hx, hb, hml, hown, ht⟩ (m_M_scoreOf i j n hi hj hn4 hs hK3 _) w_641 w_643 s_25 w_9 w_644 (by decide +kernel) ⟨rfl, rfl, by decide, by decide⟩ hw (by decide) o_M rfl rfl hl.1 rfl (Nat.le_of_ble_eq_true rfl) d_M_score_26 ⟨Nat.zero_le _, Nat.zero_le _⟩) hw hA (fun v26 u26 H locs hp hw => ?_)
      obtain ⟨hv9, hu⟩ := hp
      subst hv9
      have hu := hu.symm
      subst hu
      exact x_lret hsz hx hb hr hlk hw (by have e := nI_clamp (n := i) (by omega); have e2 := nI_clamp (n := j) (by omega); simp [scoM, c6, c14, e, e2]) d_M_score_29
    · refine lv_ldc2 (v := (-1000000000000000)) hx hb hown (ht _ w_649) d_M_score_17 ?_
      refine lv_goto (tgt := 29) hx hb d_M_score_20 (by decide) ?_
      exact x_lret hsz hx hb hr hlk hw (by simp [scoM, c6, c14]) d_M_score_29)
set_option maxHeartbeats 4000000 in
set_option maxRecDepth 100000 in
theorem m_M_node {l : Launch} {D : va_G} {g : Ids} {ad : Nat → Nat} {u : St} (x : Int32) (y : Int32) (z : Int32) (n : Nat) (hn4 : n ≤ 4) (hs : u.2.2.1 11 = nI n) : XMl l D g ad y_M_node b_M_node 5 ((some .long)) (rmN 1 21) [.ref (ad 75), .int x, .int y, .int z] u (fun v w => (v, w) = nodM u x y z n) := fun sz => x_met (by decide) (Nat.le_of_ble_eq_true rfl) (fun p e s m below meth c hsz hx hb hr hml hown ht hlk hw ls hl => by
  have hA : ∀ q, s.heap.size ≤ q → AX ad sz q := fun q h => Or.inr (hsz ▸ h)
  have hl : lv_has ls 5 [(0, .ref (ad 75)), (1, .int x), (2, .int y), (3, .int z)] := hl
  refine lv_iload_n hx hb d_M_node_0 rfl (lv_at hl 1 rfl) ?_
  refine lv_aload_n hx hb d_M_node_1 rfl (lv_at hl 0 rfl) ?_
  refine x_get (ci := 7) (k := 75) hx hb ht in_M hown hw (by decide) o_M rfl 10 (by decide) (ht _ w_496) rfl d_M_node_2 ?_
  rw [show (u.2.2.1 11) = (nI n) from hs]
  refine x_ci (x_runS (na := 2) (As := [.int x, .int (nI n)]) (rest := []) ⟨hx, hb, hml, hown, ht⟩ (m_M_in x (nI n) _) w_554 w_555 w_9 w_556 (by decide +kernel) ⟨rfl, rfl, by decide, by decide⟩ hw rfl hl.1 rfl (Nat.le_of_ble_eq_true rfl) d_M_node_5 ⟨Nat.zero_le _, Nat.zero_le _⟩) hw hA (fun v5 u5 H locs hp hw => ?_)
  obtain ⟨hv9, hu⟩ := hp
  subst hv9
  have hu := hu.symm
  subst hu
  refine lv_if_eq (tgt := 42) hx hb d_M_node_8 (by decide) (fun c8 => ?_) (fun c8 => ?_)
  · refine lv_ldc2 (v := (-1000000000000000)) hx hb hown (ht _ w_649) d_M_node_42 ?_
    exact x_lret hsz hx hb hr hlk hw (by simp [nodM, c8]) d_M_node_45
  · refine lv_iload_n hx hb d_M_node_11 rfl (lv_at hl 2 rfl) ?_
    refine lv_bipush (v := 7) hx hb d_M_node_12 (by decide) ?_
    refine x_ci (x_runS (na := 2) (As := [.int y, .int 7]) (rest := []) ⟨hx, hb, hml, hown, ht⟩ (m_M_in y 7 _) w_554 w_555 w_9 w_556 (by decide +kernel) ⟨rfl, rfl, by decide, by decide⟩ hw rfl hl.1 rfl (Nat.le_of_ble_eq_true rfl) d_M_node_14 ⟨Nat.zero_le _, Nat.zero_le _⟩) hw hA (fun v14 u14 H locs hp hw => ?_)
    obtain ⟨hv9, hu⟩ := hp
    subst hv9
    have hu := hu.symm
    subst hu
    refine lv_if_eq (tgt := 42) hx hb d_M_node_17 (by decide) (fun c17 => ?_) (fun c17 => ?_)
    · refine lv_ldc2 (v := (-1000000000000000)) hx hb hown (ht _ w_649) d_M_node_42 ?_
      exact x_lret hsz hx hb hr hlk hw (by simp [nodM, c8, c17]) d_M_node_45
    · refine lv_iload_n hx hb d_M_node_20 rfl (lv_at hl 3 rfl) ?_
      refine lv_iconst (v := 3) hx hb d_M_node_21 (by decide) ?_
      refine x_ci (x_runS (na := 2) (As := [.int z, .int 3]) (rest := []) ⟨hx, hb, hml, hown, ht⟩ (m_M_in z 3 _) w_554 w_555 w_9 w_556 (by decide +kernel) ⟨rfl, rfl, by decide, by decide⟩ hw rfl hl.1 rfl (Nat.le_of_ble_eq_true rfl) d_M_node_22 ⟨Nat.zero_le _, Nat.zero_le _⟩) hw hA (fun v22 u22 H locs hp hw => ?_)
      obtain ⟨hv9, hu⟩ := hp
      subst hv9
      have hu := hu.symm
      subst hu
      refine lv_if_eq (tgt := 42) hx hb d_M_node_25 (by decide) (fun c25 => ?_) (fun c25 => ?_)
      · refine lv_ldc2 (v := (-1000000000000000)) hx hb hown (ht _ w_649) d_M_node_42 ?_
        exact x_lret hsz hx hb hr hlk hw (by simp [nodM, c8, c17, c25]) d_M_node_45
      · obtain ⟨i, hi, rfl⟩ : ∃ j : Nat, j < n ∧ x = nI j := in_ix hn4 c8
        have hi4 : i < 4 := by omega
        obtain ⟨j, hj, rfl⟩ : ∃ j : Nat, j < 7 ∧ y = nI j := vp_in_of (in_in (N := 7) c17) (by decide)
        refine lv_aload_n hx hb d_M_node_28 rfl (lv_at hl 0 rfl) ?_
        refine x_get (ci := 7) (k := 75) hx hb ht in_M hown hw (by decide) o_M rfl 6 (by decide) (ht _ w_492) rfl d_M_node_29 ?_
        refine lv_iload_n hx hb d_M_node_32 rfl (lv_at hl 1 rfl) ?_
        refine lv_bipush (v := 7) hx hb d_M_node_33 (by decide) ?_
        refine lv_imul hx hb d_M_node_35 ?_
        rw [show ((nI i) * 7) = (nI (i * 7)) from pk_mul _ _]
        refine lv_iload_n hx hb d_M_node_36 rfl (lv_at hl 2 rfl) ?_
        refine lv_iadd hx hb d_M_node_37 ?_
        rw [show ((nI (i * 7)) + (nI j)) = (nI (i * 7 + j)) from nI_add _ _]
        refine x_iald (k := 81) hx hb hw (by decide) rfl (vin (N := 28) (by omega) rfl (by omega)) d_M_node_38 ?_
        rw [nI_clamp (n := i * 7 + j) (by omega)]
        refine lv_if_ne (tgt := 46) hx hb d_M_node_39 (by decide) (fun c39 => ?_) (fun c39 => ?_)
        · refine lv_iload_n hx hb d_M_node_46 rfl (lv_at hl 1 rfl) ?_
          refine lv_bipush (v := 7) hx hb d_M_node_47 (by decide) ?_
          refine lv_imul hx hb d_M_node_49 ?_
          rw [show ((nI i) * 7) = (nI (i * 7)) from pk_mul _ _]
          refine lv_iload_n hx hb d_M_node_50 rfl (lv_at hl 2 rfl) ?_
          refine lv_iadd hx hb d_M_node_51 ?_
          rw [show ((nI (i * 7)) + (nI j)) = (nI (i * 7 + j)) from nI_add _ _]
          refine lv_istore (lv' := [(4, .int (nI (i * 7 + j))), (0, .ref (ad 75)), (1, .int (nI i)), (2, .int (nI j)), (3, .int z)]) hx hb d_M_node_52 hl (by decide) rfl (fun ls hl => ?_)
          refine lv_iload_n hx hb d_M_node_54 rfl (lv_at hl 4 rfl) ?_
          refine lv_iconst (v := 2) hx hb d_M_node_55 (by decide) ?_
          refine lv_icmp_ne (tgt := 84) hx hb d_M_node_56 (by decide) (fun c56 => ?_) (fun c56 => ?_)
          · refine lv_aload_n hx hb d_M_node_84 rfl (lv_at hl 1 rfl) ?_
            refine x_get (ci := 7) (k := 75) hx hb ht in_M hown hw (by decide) o_M rfl 6 (by decide) (ht _ w_492) rfl d_M_node_85 ?_
            refine lv_iload hx hb d_M_node_88 (lv_at hl 0 rfl) ?_
            refine x_iald (k := 81) hx hb hw (by decide) rfl (vin (N := 28) (by omega) rfl (by omega)) d_M_node_90 ?_
            rw [nI_clamp (n := i * 7 + j) (by omega)]
            refine lv_iconst (v := 1) hx hb d_M_node_91 (by decide) ?_
            refine lv_icmp_ne (tgt := 101) hx hb d_M_node_92 (by decide) (fun c92 => ?_) (fun c92 => ?_)
            · refine lv_iload_n hx hb d_M_node_101 rfl (lv_at hl 4 rfl) ?_
              refine lv_if_ne (tgt := 116) hx hb d_M_node_102 (by decide) (fun c102 => ?_) (fun c102 => ?_)
              · refine lv_aload_n hx hb d_M_node_116 rfl (lv_at hl 1 rfl) ?_
                refine x_get (ci := 7) (k := 75) hx hb ht in_M hown hw (by decide) o_M rfl 8 (by decide) (ht _ w_494) rfl d_M_node_117 ?_
                refine lv_iload hx hb d_M_node_120 (lv_at hl 0 rfl) ?_
                refine x_iald (k := 83) hx hb hw (by decide) rfl (vin (N := 28) (by omega) rfl (by omega)) d_M_node_122 ?_
                rw [nI_clamp (n := i * 7 + j) (by omega)]
                refine lv_i2l (v := (u.1 83 (i * 7 + j)).toInt64) hx hb d_M_node_123 rfl ?_
                exact x_lret hsz hx hb hr hlk hw (by have e := nI_clamp (n := i) (by omega); have e2 := nI_clamp (n := j) (by omega); first | (simp [nodM, c8, c17, c25, c39, c56, c92, c102, e, e2]; done) | simp_all [nodM]) d_M_node_124
              · refine lv_aload_n hx hb d_M_node_105 rfl (lv_at hl 1 rfl) ?_
                refine x_get (ci := 7) (k := 75) hx hb ht in_M hown hw (by decide) o_M rfl 7 (by decide) (ht _ w_493) rfl d_M_node_106 ?_
                refine lv_iload hx hb d_M_node_109 (lv_at hl 0 rfl) ?_
                refine x_iald (k := 82) hx hb hw (by decide) rfl (vin (N := 28) (by omega) rfl (by omega)) d_M_node_111 ?_
                rw [nI_clamp (n := i * 7 + j) (by omega)]
                refine lv_i2l (v := (u.1 82 (i * 7 + j)).toInt64) hx hb d_M_node_112 rfl ?_
                refine lv_goto (tgt := 124) hx hb d_M_node_113 (by decide) ?_
                exact x_lret hsz hx hb hr hlk hw (by have e := nI_clamp (n := i) (by omega); have e2 := nI_clamp (n := j) (by omega); first | (simp [nodM, c8, c17, c25, c39, c56, c92, c102, e, e2]; done) | simp_all [nodM]) d_M_node_124
            · refine lv_ldc2 (v := (-1)) hx hb hown (ht _ w_663) d_M_node_95 ?_
              refine lv_goto (tgt := 124) hx hb d_M_node_98 (by decide) ?_
              exact x_lret hsz hx hb hr hlk hw (by have e := nI_clamp (n := i) (by omega); have e2 := nI_clamp (n := j) (by omega); first | (simp [nodM, c8, c17, c25, c39, c56, c92, e, e2]; done) | simp_all [nodM]) d_M_node_124
          · refine lv_aload_n hx hb d_M_node_59 rfl (lv_at hl 1 rfl) ?_
            refine x_get (ci := 7) (k := 75) hx hb ht in_M hown hw (by decide) o_M rfl 6 (by decide) (ht _ w_492) rfl d_M_node_60 ?_
            refine lv_iload hx hb d_M_node_63 (lv_at hl 0 rfl) ?_
            refine x_iald (k := 81) hx hb hw (by decide) rfl (vin (N := 28) (by omega) rfl (by omega)) d_M_node_65 ?_
            rw [nI_clamp (n := i * 7 + j) (by omega)]
            refine lv_iconst (v := 1) hx hb d_M_node_66 (by decide) ?_
            refine lv_icmp_ne (tgt := 80) hx hb d_M_node_67 (by decide) (fun c67 => ?_) (fun c67 => ?_)
            · refine lv_ldc2 (v := (-1000000000000000)) hx hb hown (ht _ w_649) d_M_node_80 ?_
              exact x_lret hsz hx hb hr hlk hw (by have e := nI_clamp (n := i) (by omega); have e2 := nI_clamp (n := j) (by omega); first | (simp [nodM, c8, c17, c25, c39, c56, c67, e, e2]; done) | simp_all [nodM]) d_M_node_83
            · refine lv_aload_n hx hb d_M_node_70 rfl (lv_at hl 1 rfl) ?_
              refine x_get (ci := 7) (k := 75) hx hb ht in_M hown hw (by decide) o_M rfl 9 (by decide) (ht _ w_495) rfl d_M_node_71 ?_
              refine lv_iload hx hb d_M_node_74 (lv_at hl 0 rfl) ?_
              refine x_lald (k := 84) hx hb hw (by decide) rfl (vin (N := 28) (by omega) rfl (by omega)) d_M_node_76 ?_
              rw [nI_clamp (n := i * 7 + j) (by omega)]
              refine lv_goto (tgt := 83) hx hb d_M_node_77 (by decide) ?_
              exact x_lret hsz hx hb hr hlk hw (by have e := nI_clamp (n := i) (by omega); have e2 := nI_clamp (n := j) (by omega); first | (simp [nodM, c8, c17, c25, c39, c56, c67, e, e2]; done) | simp_all [nodM]) d_M_node_83
        · refine lv_ldc2 (v := (-1000000000000000)) hx hb hown (ht _ w_649) d_M_node_42 ?_
          exact x_lret hsz hx hb hr hlk hw (by have e := nI_clamp (n := i) (by omega); have e2 := nI_clamp (n := j) (by omega); first | (simp [nodM, c8, c17, c25, c39, e, e2]; done) | simp_all [nodM]) d_M_node_45)
set_option maxHeartbeats 4000000 in
set_option maxRecDepth 100000 in
theorem m_X_rest {l : Launch} {D : va_G} {g : Ids} {ad : Nat → Nat} {u : St} (i : Int32) (n : Nat) (hnn : ∀ d, d < 16 → ∀ t, t < 12 → 0 ≤ u.1 (22 + d) t) (hn4 : n ≤ 4) (hs : u.2.2.1 2 = nI n) (hT : ∀ t, t < n → ∀ j, j < 7 → u.1 (63 + t) j < 5) : XMl l D g ad y_X_rest b_X_rest 5 ((some .long)) (rmN 4 91) [.ref (ad 0), .int i] u (fun v w => (v, w) = rstX u i n) := fun sz => x_met (by decide) (Nat.le_of_ble_eq_true rfl) (fun p e s m below meth c hsz hx hb hr hml hown ht hlk hw ls hl => by
  have hA : ∀ q, s.heap.size ≤ q → AX ad sz q := fun q h => Or.inr (hsz ▸ h)
  have hl : lv_has ls 5 [(0, .ref (ad 0)), (1, .int i)] := hl
  refine lv_aload_n hx hb d_X_rest_0 rfl (lv_at hl 0 rfl) ?_
  refine x_get (ci := 6) (k := 0) hx hb ht in_X hown hw (by decide) o_X rfl 2 (by decide) (ht _ w_146) rfl d_X_rest_1 ?_
  refine lv_iload_n hx hb d_X_rest_4 rfl (lv_at hl 1 rfl) ?_
  refine x_ci (x_runV (na := 1) (k := 3) (As := [.int i]) (rest := []) (ci := 2) ⟨hx, hb, hml, hown, ht⟩ (m_Ju_pairOf i _) w_412 w_413 w_414 w_3 w_415 (by decide +kernel) ⟨rfl, rfl, by decide, by decide⟩ hw (by decide) o_Ju rfl rfl hl.1 rfl (Nat.le_of_ble_eq_true rfl) d_X_rest_5 ⟨Nat.zero_le _, Nat.zero_le _⟩) hw hA (fun v5 u5 H locs hp hw => ?_)
  obtain ⟨hv9, hu⟩ := hp
  subst hv9
  have hu := hu.symm
  subst hu
  refine lv_istore_n (lv' := [(2, .int (pairF (u.1 12) i 128 0)), (0, .ref (ad 0)), (1, .int i)]) hx hb d_X_rest_8 rfl hl (by decide) rfl (fun ls hl => ?_)
  refine lv_iload_n hx hb d_X_rest_9 rfl (lv_at hl 0 rfl) ?_
  refine lv_if_ge (tgt := 17) hx hb d_X_rest_10 (by decide) (fun c10 => ?_) (fun c10 => ?_)
  · obtain ⟨j, hj, hpj⟩ := pairF_ix (f := u.1 12) (i := i) 128 0 (by omega) c10
    rw [hpj] at hl
    refine lv_iload_n hx hb d_X_rest_17 rfl (lv_at hl 0 rfl) ?_
    refine lv_bipush (v := 16) hx hb d_X_rest_18 (by decide) ?_
    refine lv_idiv hx hb d_X_rest_20 (by decide) ?_
    rw [show ((nI j) / 16) = (nI (j / 16)) from pk_div (a := j) (d := 16) (by omega) (by decide) (by decide)]
    refine lv_istore_n (lv' := [(3, .int (nI (j / 16))), (2, .int (nI j)), (0, .ref (ad 0)), (1, .int i)]) hx hb d_X_rest_21 rfl hl (by decide) rfl (fun ls hl => ?_)
    refine lv_iload_n hx hb d_X_rest_22 rfl (lv_at hl 1 rfl) ?_
    refine lv_bipush (v := 16) hx hb d_X_rest_23 (by decide) ?_
    refine lv_irem hx hb d_X_rest_25 (by decide) ?_
    rw [show ((nI j) - (nI j) / 16 * 16) = (nI (j % 16)) from pk_rem (a := j) (d := 16) (by omega) (by decide) (by decide)]
    refine lv_istore (lv' := [(4, .int (nI (j % 16))), (3, .int (nI (j / 16))), (2, .int (nI j)), (0, .ref (ad 0)), (1, .int i)]) hx hb d_X_rest_26 hl (by decide) rfl (fun ls hl => ?_)
    refine lv_aload_n hx hb d_X_rest_28 rfl (lv_at hl 3 rfl) ?_
    refine x_get (ci := 6) (k := 0) hx hb ht in_X hown hw (by decide) o_X rfl 0 (by decide) (ht _ w_144) rfl d_X_rest_29 ?_
    refine lv_iload hx hb d_X_rest_32 (lv_at hl 0 rfl) ?_
    refine x_ci (x_runV (na := 1) (k := 1) (As := [.int (nI (j % 16))]) (rest := []) (ci := 4) ⟨hx, hb, hml, hown, ht⟩ (m_Sh_holds (nI (j % 16)) _) w_188 w_189 w_190 w_2 w_191 (by decide +kernel) ⟨rfl, rfl, by decide, by decide⟩ hw (by decide) o_Sh rfl rfl hl.1 rfl (Nat.le_of_ble_eq_true rfl) d_X_rest_34 ⟨Nat.zero_le _, Nat.zero_le _⟩) hw hA (fun v34 u34 H locs hp hw => ?_)
    obtain ⟨hv9, hu⟩ := hp
    subst hv9
    have hu := hu.symm
    subst hu
    refine lv_if_ne (tgt := 44) hx hb d_X_rest_37 (by decide) (fun c37 => ?_) (fun c37 => ?_)
    · refine lv_ldc2 (v := 65536) hx hb hown (ht _ w_416) d_X_rest_44 ?_
      refine lv_aload_n hx hb d_X_rest_47 rfl (lv_at hl 3 rfl) ?_
      refine x_get (ci := 6) (k := 0) hx hb ht in_X hown hw (by decide) o_X rfl 2 (by decide) (ht _ w_146) rfl d_X_rest_48 ?_
      refine lv_iload_n hx hb d_X_rest_51 rfl (lv_at hl 1 rfl) ?_
      refine lv_iload hx hb d_X_rest_52 (lv_at hl 0 rfl) ?_
      refine x_ci (x_runV (na := 2) (k := 3) (As := [.int (nI (j / 16)), .int (nI (j % 16))]) (rest := [.long 65536]) (ci := 2) ⟨hx, hb, hml, hown, ht⟩ (m_Ju_gradeOf (j / 16) (j % 16) (by omega) (by omega) _) w_216 w_217 w_218 w_3 w_219 (by decide +kernel) ⟨rfl, rfl, by decide, by decide⟩ hw (by decide) o_Ju rfl rfl hl.1 rfl (Nat.le_of_ble_eq_true rfl) d_X_rest_54 ⟨Nat.zero_le _, Nat.zero_le _⟩) hw hA (fun v54 u54 H locs hp hw => ?_)
      obtain ⟨hv9, hu⟩ := hp
      subst hv9
      have hu := hu.symm
      subst hu
      refine lv_i2l (v := (u.1 12 ((j / 16) * 16 + (j % 16))).toInt64) hx hb d_X_rest_57 rfl ?_
      refine lv_lmul hx hb d_X_rest_58 ?_
      refine lv_aload_n hx hb d_X_rest_59 rfl (lv_at hl 3 rfl) ?_
      refine lv_iload_n hx hb d_X_rest_60 rfl (lv_at hl 1 rfl) ?_
      refine lv_iload hx hb d_X_rest_61 (lv_at hl 0 rfl) ?_
      refine x_cl (x_runV (na := 2) (k := 0) (As := [.int (nI (j / 16)), .int (nI (j % 16))]) (rest := [.long (65536 * (u.1 12 ((j / 16) * 16 + (j % 16))).toInt64)]) (ci := 6) ⟨hx, hb, hml, hown, ht⟩ (m_X_scoreNow (j / 16) (j % 16) n (by omega) (by omega) (hnn (j % 16) (by omega)) hn4 hs hT _) w_389 w_391 s_11 w_1 w_392 (by decide +kernel) ⟨rfl, rfl, by decide, by decide⟩ hw (by decide) o_X rfl rfl hl.1 rfl (Nat.le_of_ble_eq_true rfl) d_X_rest_63 ⟨Nat.zero_le _, Nat.zero_le _⟩) hw hA (fun v63 u63 H locs hp hw => ?_)
      obtain ⟨rfl, hu⟩ := hp
      have hu := hu.symm
      subst hu
      refine lv_lsub hx hb d_X_rest_66 ?_
      exact x_lret hsz hx hb hr hlk hw (by have e := nI_clamp (n := j) (by omega); simp [rstX, hpj, nI_pos9 j hj, c10, c37, e]) d_X_rest_67
    · refine lv_ldc2 (v := (-1000000000000000)) hx hb hown (ht _ w_402) d_X_rest_40 ?_
      exact x_lret hsz hx hb hr hlk hw (by have e := nI_clamp (n := j) (by omega); simp [rstX, hpj, nI_pos9 j hj, c10, c37, e]) d_X_rest_43
  · refine lv_ldc2 (v := (-1000000000000000)) hx hb hown (ht _ w_402) d_X_rest_13 ?_
    exact x_lret hsz hx hb hr hlk hw (by simp [rstX, c10]) d_X_rest_16)
