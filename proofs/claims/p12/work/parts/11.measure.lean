def bitF (m : Int32) (t : Nat) : Int32 := (m >>> (nI t &&& 31)) &&& 1
def hadF (f : Nat → Int32) (m : Int32) : Nat → Int32
  | 0 => 0
  | t + 1 => if f t = 0 ∨ bitF m t = 0 then hadF f m t else hadF f m t + 1
def selF (f : Nat → Int32) (m : Int32) : Nat → Int32
  | 0 => 0
  | t + 1 => if f t = 0 ∨ bitF m t = 0 then selF f m t else selF f m t + f t
def grF (f : Nat → Int32) (m : Int32) : Nat → Int32
  | 0 => 0
  | t + 1 => if f t = 0 ∨ bitF m t = 0 then grF f m t else if f t ≤ grF f m t then grF f m t else f t
def featF (f : Nat → Int32) (m q k : Int32) : Int32 := if k = 3 then q else if k = 0 then hadF f m 12 else if k = 1 then selF f m 12 else if k = 2 then sumF f 12 else grF f m 12
def measF (u : St) (d : Nat) (m : Int32) : St := sI (sI (sI (sI (sI u 8 0 (hadF (u.1 (22 + d)) m 12)) 8 1 (selF (u.1 (22 + d)) m 12)) 8 2 (sumF (u.1 (22 + d)) 12)) 8 3 (u.1 10 d)) 8 4 (grF (u.1 (22 + d)) m 12)
theorem bit_01 (m : Int32) (t : Nat) : bitF m t = 0 ∨ bitF m t = 1 := by
  obtain ⟨j, hj, e⟩ := pk_andE (m >>> (nI t &&& 31)) (m := 1) 1 (by decide)
  have hj : j = 0 ∨ j = 1 := by omega
  unfold bitF
  rw [e]
  rcases hj with rfl | rfl
  · exact Or.inl rfl
  · exact Or.inr rfl
theorem sel1 {x b : Int32} (h : 0 ≤ x) (hc : x ≤ 0) : x = 0 ∨ b = 0 := Or.inl (Int32.toInt_inj.mp (by rw [Int32.le_iff_toInt_le] at h hc; exact Int.le_antisymm hc h))
theorem sel2 {x m : Int32} {t : Nat} (hc : ¬ (m >>> (nI t &&& 31)) &&& 1 = 1) : x = 0 ∨ bitF m t = 0 := Or.inr ((bit_01 m t).elim id (fun h => absurd h hc))
theorem sel3 {x m : Int32} {t : Nat} (h1 : ¬ x ≤ 0) (h2 : (m >>> (nI t &&& 31)) &&& 1 = 1) : ¬ (x = 0 ∨ bitF m t = 0) := fun h => by
  rcases h with h | h
  · rw [h] at h1; exact h1 (by decide)
  · have : bitF m t = 1 := h2
    rw [h] at this
    exact absurd this (by decide)
theorem sel66 {x m : Int32} {t : Nat} (hc : (m >>> (nI t &&& 31)) &&& 1 = 0) : x = 0 ∨ bitF m t = 0 := Or.inr hc
theorem selm3 {x m : Int32} {t : Nat} (h1 : ¬ (m >>> (nI t &&& 31)) &&& 1 = 0) (h2 : ¬ x = 0) : ¬ (x = 0 ∨ bitF m t = 0) := fun h => h.elim h2 h1
theorem max_eq (g x : Int32) : (if g < x then x else g) = (if x ≤ g then g else x) := by
  by_cases h : g < x
  · rw [if_pos h, if_neg (by rw [Int32.le_iff_toInt_le]; rw [Int32.lt_iff_toInt_lt] at h; omega)]
  · rw [if_neg h, if_pos (by rw [Int32.le_iff_toInt_le]; rw [Int32.lt_iff_toInt_lt] at h; omega)]
def shareN (n : Nat) : Nat := if n ≤ 1 then 1 else if n ≤ 2 then 2 else if n ≤ 4 then 4 else if n ≤ 8 then 8 else 16
theorem shareN_eq {a n : Nat} (ha : a = 1 ∨ a = 2 ∨ a = 4 ∨ a = 8 ∨ a = 16) (hlo : a = 1 ∨ a < 2 * n) (h : n ≤ a) (hn : n ≤ 16) : shareN n = a := by
  unfold shareN
  split
  · omega
  · split
    · omega
    · split
      · omega
      · split <;> omega
theorem shareN_b (n : Nat) : 1 ≤ shareN n ∧ shareN n ≤ 16 := by
  unfold shareN
  split; omega; split; omega; split; omega; split <;> omega
theorem share_ne (n : Nat) : ¬ (nI (shareN n)).toInt64 = 0 := fun q => by
  have h := shareN_b n
  rw [nI_l (by omega)] at q
  have := (lN_eq (a := shareN n) (b := 0) (by omega) (by omega)).mp q
  omega
def worthF (x : Int64) (n : Nat) : Int64 := x * x / (nI (shareN n)).toInt64
def shareI (n : Int32) : Nat := if n ≤ nI 1 then 1 else if n ≤ nI 2 then 2 else if n ≤ nI 4 then 4 else if n ≤ nI 8 then 8 else 16
theorem le_up {n : Int32} {a b : Nat} (h : n ≤ nI a) (hab : a ≤ b) (hb : b ≤ 100) : n ≤ nI b := by
  rw [Int32.le_iff_toInt_le] at h ⊢
  rw [nI_toInt (by omega)] at h ⊢
  omega
theorem shareI_eq {a : Nat} {n : Int32} (ha : a = 1 ∨ a = 2 ∨ a = 4 ∨ a = 8 ∨ a = 16) (hlo : a = 1 ∨ ¬ n ≤ nI (a / 2)) (h : n ≤ nI a ∨ 16 ≤ a) : shareI n = a := by
  unfold shareI
  rcases ha with rfl | rfl | rfl | rfl | rfl
  · rw [if_pos (h.elim id (fun q => absurd q (by omega)))]
  · have l1 : ¬ n ≤ nI 1 := hlo.elim (fun q => absurd q (by omega)) id
    rw [if_neg l1, if_pos (h.elim id (fun q => absurd q (by omega)))]
  · have l2 : ¬ n ≤ nI 2 := hlo.elim (fun q => absurd q (by omega)) id
    rw [if_neg (fun q => l2 (le_up q (by omega) (by omega))), if_neg l2, if_pos (h.elim id (fun q => absurd q (by omega)))]
  · have l4 : ¬ n ≤ nI 4 := hlo.elim (fun q => absurd q (by omega)) id
    rw [if_neg (fun q => l4 (le_up q (by omega) (by omega))), if_neg (fun q => l4 (le_up q (by omega) (by omega))), if_neg l4, if_pos (h.elim id (fun q => absurd q (by omega)))]
  · have l8 : ¬ n ≤ nI 8 := hlo.elim (fun q => absurd q (by omega)) id
    rw [if_neg (fun q => l8 (le_up q (by omega) (by omega))), if_neg (fun q => l8 (le_up q (by omega) (by omega))), if_neg (fun q => l8 (le_up q (by omega) (by omega))), if_neg l8]
theorem shareI_b (n : Int32) : 1 ≤ shareI n ∧ shareI n ≤ 16 := by
  unfold shareI
  split; omega; split; omega; split; omega; split <;> omega
theorem shareI_ne (n : Int32) : ¬ (nI (shareI n)).toInt64 = 0 := fun q => by
  have h := shareI_b n
  rw [nI_l (by omega)] at q
  have := (lN_eq (a := shareI n) (b := 0) (by omega) (by omega)).mp q
  omega
def worthI (x : Int64) (n : Int32) : Int64 := x * x / (nI (shareI n)).toInt64
set_option maxHeartbeats 4000000 in
set_option maxRecDepth 100000 in
theorem m_Sh_measure {l : Launch} {D : va_G} {g : Ids} {ad : Nat → Nat} {u : St} (d : Nat) (x : Int32) (hd : d < 16) (hnn : ∀ t, t < 12 → 0 ≤ u.1 (22 + d) t) : XMv l D g ad y_Sh_measure b_Sh_measure 9 (none) (rmN 1 23) [.ref (ad 1), .int (nI d), .int x, .ref (ad 8)] u (fun w => w = measF u d x) := fun sz => x_met (by decide) (Nat.le_of_ble_eq_true rfl) (fun p e s m below meth c hsz hx hb hr hml hown ht hlk hw ls hl => by
  have hA : ∀ q, s.heap.size ≤ q → AX ad sz q := fun q h => Or.inr (hsz ▸ h)
  have hl : lv_has ls 9 [(0, .ref (ad 1)), (1, .int (nI d)), (2, .int x), (3, .ref (ad 8))] := hl
  refine lv_iconst (v := 0) hx hb d_Sh_measure_0 (by decide) ?_
  refine lv_istore (lv' := [(4, .int 0), (0, .ref (ad 1)), (1, .int (nI d)), (2, .int x), (3, .ref (ad 8))]) hx hb d_Sh_measure_1 hl (by decide) rfl (fun ls hl => ?_)
  refine lv_iconst (v := 0) hx hb d_Sh_measure_3 (by decide) ?_
  refine lv_istore (lv' := [(5, .int 0), (4, .int 0), (0, .ref (ad 1)), (1, .int (nI d)), (2, .int x), (3, .ref (ad 8))]) hx hb d_Sh_measure_4 hl (by decide) rfl (fun ls hl => ?_)
  refine lv_iconst (v := 0) hx hb d_Sh_measure_6 (by decide) ?_
  refine lv_istore (lv' := [(6, .int 0), (5, .int 0), (4, .int 0), (0, .ref (ad 1)), (1, .int (nI d)), (2, .int x), (3, .ref (ad 8))]) hx hb d_Sh_measure_7 hl (by decide) rfl (fun ls hl => ?_)
  refine lv_iconst (v := 0) hx hb d_Sh_measure_9 (by decide) ?_
  refine lv_istore (lv' := [(7, .int 0), (6, .int 0), (5, .int 0), (4, .int 0), (0, .ref (ad 1)), (1, .int (nI d)), (2, .int x), (3, .ref (ad 8))]) hx hb d_Sh_measure_10 hl (by decide) rfl (fun ls hl => ?_)
  have L12 : ∀ (n12 : Nat) (t : Nat), t ≤ 12 → 12 - t < n12 → ∀ (H : Heap) (locs : List Loc), XH D g ad (AX ad sz) s s.heap H locs u → ∀ ls : Array Slot, lv_has ls 9 [(7, .int (nI t)), (6, .int (grF (u.1 (22 + d)) x t)), (5, .int (selF (u.1 (22 + d)) x t)), (4, .int (hadF (u.1 (22 + d)) x t)), (0, .ref (ad 1)), (1, .int (nI d)), (2, .int x), (3, .ref (ad 8))] → W p l e (rmN 1 23) s m ([.ref (ad 1), .int (nI d), .int x, .ref (ad 8)] : List Value).toArray below meth c H locs 0 0 (MQ below (va_Qv (fun w => w = measF u d x) (XB D g ad sz) (AX ad sz)) ([.ref (ad 1), .int (nI d), .int x, .ref (ad 8)] : List Value).toArray s 0 0 (AX ad sz)) (F0 m 12 ls []) := by
    intro n12
    induction n12 with
    | zero => intro t h1 hz; exact absurd hz (by omega)
    | succ n12 ih12 =>
      intro t h1 hnL12 H locs hw ls hl
      refine lv_iload hx hb d_Sh_measure_12 (lv_at hl 0 rfl) ?_
      refine lv_bipush (v := 12) hx hb d_Sh_measure_14 (by decide) ?_
      refine lv_icmp_ge (tgt := 70) hx hb d_Sh_measure_16 (by decide) (fun c16 => ?_) (fun c16 => ?_)
      · have h16 : (12) ≤ (t) := (nI_leI (a := 12) (b := t) (by omega) (by omega)).mp c16
        refine lv_aload_n hx hb d_Sh_measure_70 rfl (lv_at hl 7 rfl) ?_
        refine lv_iconst (v := 0) hx hb d_Sh_measure_71 (by decide) ?_
        refine lv_iload hx hb d_Sh_measure_72 (lv_at hl 3 rfl) ?_
        refine x_iast (k := 8) hx hb hw (by decide) rfl (vin (n := 0) (N := 5) (by omega) rfl (by omega)) d_Sh_measure_74 (fun H locs hw => ?_)
        rw [show Int32.toNatClampNeg 0 = 0 from rfl] at hw
        refine lv_aload_n hx hb d_Sh_measure_75 rfl (lv_at hl 7 rfl) ?_
        refine lv_iconst (v := 1) hx hb d_Sh_measure_76 (by decide) ?_
        refine lv_iload hx hb d_Sh_measure_77 (lv_at hl 2 rfl) ?_
        refine x_iast (k := 8) hx hb hw (by decide) rfl (vin (n := 1) (N := 5) (by omega) rfl (by omega)) d_Sh_measure_79 (fun H locs hw => ?_)
        rw [show Int32.toNatClampNeg 1 = 1 from rfl] at hw
        refine lv_aload_n hx hb d_Sh_measure_80 rfl (lv_at hl 7 rfl) ?_
        refine lv_iconst (v := 2) hx hb d_Sh_measure_81 (by decide) ?_
        refine lv_aload_n hx hb d_Sh_measure_82 rfl (lv_at hl 4 rfl) ?_
        refine lv_iload_n hx hb d_Sh_measure_83 rfl (lv_at hl 5 rfl) ?_
        refine x_ci (x_runV (na := 1) (k := 1) (As := [.int (nI d)]) (rest := [.int 2, .ref (ad 8)]) (ci := 4) ⟨hx, hb, hml, hown, ht⟩ (m_Sh_sizeOf d hd _) w_259 w_261 s_2 w_2 w_262 (by decide +kernel) ⟨rfl, rfl, by decide, by decide⟩ hw (by decide) o_Sh rfl rfl hl.1 rfl (Nat.le_of_ble_eq_true rfl) d_Sh_measure_84 ⟨Nat.zero_le _, Nat.zero_le _⟩) hw hA (fun v84 u84 H locs hp hw => ?_)
        obtain ⟨hv9, hu⟩ := hp
        subst hv9
        have hu := hu.symm
        subst hu
        rw [show (sumF ((sI (sI u 8 0 (hadF (u.1 (22 + d)) x t)) 8 1 (selF (u.1 (22 + d)) x t)).1 (22 + d)) 12) = (sumF (u.1 (22 + d)) 12) from by rw [sI_ne (by omega), sI_ne (by omega)]]
        refine x_iast (k := 8) hx hb hw (by decide) rfl (vin (n := 2) (N := 5) (by omega) rfl (by omega)) d_Sh_measure_87 (fun H locs hw => ?_)
        rw [show Int32.toNatClampNeg 2 = 2 from rfl] at hw
        refine lv_aload_n hx hb d_Sh_measure_88 rfl (lv_at hl 7 rfl) ?_
        refine lv_iconst (v := 3) hx hb d_Sh_measure_89 (by decide) ?_
        refine lv_aload_n hx hb d_Sh_measure_90 rfl (lv_at hl 4 rfl) ?_
        refine x_get (ci := 4) (k := 1) hx hb ht in_Sh hown hw (by decide) o_Sh rfl 1 (by decide) (ht _ w_29) rfl d_Sh_measure_91 ?_
        refine lv_iload_n hx hb d_Sh_measure_94 rfl (lv_at hl 5 rfl) ?_
        refine x_iald (k := 10) hx hb hw (by decide) rfl (vin (N := 16) (by omega) rfl (by omega)) d_Sh_measure_95 ?_
        rw [nI_clamp (n := d) (by omega)]
        rw [show ((sI (sI (sI u 8 0 (hadF (u.1 (22 + d)) x t)) 8 1 (selF (u.1 (22 + d)) x t)) 8 2 (sumF (u.1 (22 + d)) 12)).1 10 d) = (u.1 10 d) from rfl]
        refine x_iast (k := 8) hx hb hw (by decide) rfl (vin (n := 3) (N := 5) (by omega) rfl (by omega)) d_Sh_measure_96 (fun H locs hw => ?_)
        rw [show Int32.toNatClampNeg 3 = 3 from rfl] at hw
        refine lv_aload_n hx hb d_Sh_measure_97 rfl (lv_at hl 7 rfl) ?_
        refine lv_iconst (v := 4) hx hb d_Sh_measure_98 (by decide) ?_
        refine lv_iload hx hb d_Sh_measure_99 (lv_at hl 1 rfl) ?_
        refine x_iast (k := 8) hx hb hw (by decide) rfl (vin (n := 4) (N := 5) (by omega) rfl (by omega)) d_Sh_measure_101 (fun H locs hw => ?_)
        rw [show Int32.toNatClampNeg 4 = 4 from rfl] at hw
        exact x_vret hsz hx hb hr hlk hw (by unfold measF; rw [show t = 12 by omega]) d_Sh_measure_102
      · have h16 : ¬ (12) ≤ (t) := fun hz9 => c16 ((nI_leI (a := 12) (b := t) (by omega) (by omega)).mpr hz9)
        refine lv_aload_n hx hb d_Sh_measure_19 rfl (lv_at hl 4 rfl) ?_
        refine x_get (ci := 4) (k := 1) hx hb ht in_Sh hown hw (by decide) o_Sh rfl 2 (by decide) (ht _ w_30) rfl d_Sh_measure_20 ?_
        refine lv_iload_n hx hb d_Sh_measure_23 rfl (lv_at hl 5 rfl) ?_
        refine x_aald (k := 11) (b := 22) (n := 16) (t0 := 3) hx hb hw (by decide) (fun _ => rfl) rfl rfl (vp_in_nI (by omega) (by decide)) d_Sh_measure_24 ?_
        rw [nI_clamp (n := d) (by omega)]
        refine lv_iload hx hb d_Sh_measure_25 (lv_at hl 0 rfl) ?_
        refine x_iald (k := 22 + d) hx hb hw (by omega) (xk_cnt _ hd).1 (vin (N := 12) (by omega) (xk_cnt _ hd).2 (by omega)) d_Sh_measure_27 ?_
        rw [nI_clamp (n := t) (by omega)]
        refine lv_istore (lv' := [(8, .int (u.1 (22 + d) t)), (7, .int (nI t)), (6, .int (grF (u.1 (22 + d)) x t)), (5, .int (selF (u.1 (22 + d)) x t)), (4, .int (hadF (u.1 (22 + d)) x t)), (0, .ref (ad 1)), (1, .int (nI d)), (2, .int x), (3, .ref (ad 8))]) hx hb d_Sh_measure_28 hl (by decide) rfl (fun ls hl => ?_)
        refine lv_iload hx hb d_Sh_measure_30 (lv_at hl 0 rfl) ?_
        refine lv_if_le (tgt := 64) hx hb d_Sh_measure_32 (by decide) (fun c32 => ?_) (fun c32 => ?_)
        · refine lv_iinc (v := (nI (t + 1))) (lv' := [(7, .int (nI (t + 1))), (8, .int (u.1 (22 + d) t)), (6, .int (grF (u.1 (22 + d)) x t)), (5, .int (selF (u.1 (22 + d)) x t)), (4, .int (hadF (u.1 (22 + d)) x t)), (0, .ref (ad 1)), (1, .int (nI d)), (2, .int x), (3, .ref (ad 8))]) hx hb d_Sh_measure_64 hl (k := 1) rfl (nI_1 _) (by decide) rfl (fun ls hl => ?_)
          refine lv_goto (tgt := 12) hx hb d_Sh_measure_67 (by decide) ?_
          exact ih12 (t + 1) (by omega) (by omega) _ _ hw ls (by rw [← (show (hadF (u.1 (22 + d)) x t) = (hadF (u.1 (22 + d)) x (t + 1)) from (by simp only [hadF]; first | (rw [if_pos (sel1 (hnn t (by omega)) c32)]; done) | (rw [if_pos (sel2 c42)]; done) | (rw [if_neg (sel3 c32 c42)]; done) | (rw [if_neg (sel3 c32 c42)]; exact max_eq _ _))), ← (show (selF (u.1 (22 + d)) x t) = (selF (u.1 (22 + d)) x (t + 1)) from (by simp only [selF]; first | (rw [if_pos (sel1 (hnn t (by omega)) c32)]; done) | (rw [if_pos (sel2 c42)]; done) | (rw [if_neg (sel3 c32 c42)]; done) | (rw [if_neg (sel3 c32 c42)]; exact max_eq _ _))), ← (show (grF (u.1 (22 + d)) x t) = (grF (u.1 (22 + d)) x (t + 1)) from (by simp only [grF]; first | (rw [if_pos (sel1 (hnn t (by omega)) c32)]; done) | (rw [if_pos (sel2 c42)]; done) | (rw [if_neg (sel3 c32 c42)]; done) | (rw [if_neg (sel3 c32 c42)]; exact max_eq _ _)))]; exact lv_sub hl [0, 2, 3, 4, 5, 6, 7, 8] rfl)
        · refine lv_iload_n hx hb d_Sh_measure_35 rfl (lv_at hl 7 rfl) ?_
          refine lv_iload hx hb d_Sh_measure_36 (lv_at hl 1 rfl) ?_
          refine lv_ishr hx hb d_Sh_measure_38 ?_
          refine lv_iconst (v := 1) hx hb d_Sh_measure_39 (by decide) ?_
          refine lv_iand hx hb d_Sh_measure_40 ?_
          refine lv_iconst (v := 1) hx hb d_Sh_measure_41 (by decide) ?_
          refine lv_icmp_ne (tgt := 64) hx hb d_Sh_measure_42 (by decide) (fun c42 => ?_) (fun c42 => ?_)
          · refine lv_iinc (v := (nI (t + 1))) (lv' := [(7, .int (nI (t + 1))), (8, .int (u.1 (22 + d) t)), (6, .int (grF (u.1 (22 + d)) x t)), (5, .int (selF (u.1 (22 + d)) x t)), (4, .int (hadF (u.1 (22 + d)) x t)), (0, .ref (ad 1)), (1, .int (nI d)), (2, .int x), (3, .ref (ad 8))]) hx hb d_Sh_measure_64 hl (k := 1) rfl (nI_1 _) (by decide) rfl (fun ls hl => ?_)
            refine lv_goto (tgt := 12) hx hb d_Sh_measure_67 (by decide) ?_
            exact ih12 (t + 1) (by omega) (by omega) _ _ hw ls (by rw [← (show (hadF (u.1 (22 + d)) x t) = (hadF (u.1 (22 + d)) x (t + 1)) from (by simp only [hadF]; first | (rw [if_pos (sel1 (hnn t (by omega)) c32)]; done) | (rw [if_pos (sel2 c42)]; done) | (rw [if_neg (sel3 c32 c42)]; done) | (rw [if_neg (sel3 c32 c42)]; exact max_eq _ _))), ← (show (selF (u.1 (22 + d)) x t) = (selF (u.1 (22 + d)) x (t + 1)) from (by simp only [selF]; first | (rw [if_pos (sel1 (hnn t (by omega)) c32)]; done) | (rw [if_pos (sel2 c42)]; done) | (rw [if_neg (sel3 c32 c42)]; done) | (rw [if_neg (sel3 c32 c42)]; exact max_eq _ _))), ← (show (grF (u.1 (22 + d)) x t) = (grF (u.1 (22 + d)) x (t + 1)) from (by simp only [grF]; first | (rw [if_pos (sel1 (hnn t (by omega)) c32)]; done) | (rw [if_pos (sel2 c42)]; done) | (rw [if_neg (sel3 c32 c42)]; done) | (rw [if_neg (sel3 c32 c42)]; exact max_eq _ _)))]; exact lv_sub hl [0, 2, 3, 4, 5, 6, 7, 8] rfl)
          · refine lv_iinc (v := ((hadF (u.1 (22 + d)) x t) + 1)) (lv' := [(4, .int ((hadF (u.1 (22 + d)) x t) + 1)), (8, .int (u.1 (22 + d) t)), (7, .int (nI t)), (6, .int (grF (u.1 (22 + d)) x t)), (5, .int (selF (u.1 (22 + d)) x t)), (0, .ref (ad 1)), (1, .int (nI d)), (2, .int x), (3, .ref (ad 8))]) hx hb d_Sh_measure_45 hl (k := 4) rfl rfl (by decide) rfl (fun ls hl => ?_)
            refine lv_iload hx hb d_Sh_measure_48 (lv_at hl 4 rfl) ?_
            refine lv_iload hx hb d_Sh_measure_50 (lv_at hl 1 rfl) ?_
            refine lv_iadd hx hb d_Sh_measure_52 ?_
            refine lv_istore (lv' := [(5, .int ((selF (u.1 (22 + d)) x t) + (u.1 (22 + d) t))), (4, .int ((hadF (u.1 (22 + d)) x t) + 1)), (8, .int (u.1 (22 + d) t)), (7, .int (nI t)), (6, .int (grF (u.1 (22 + d)) x t)), (0, .ref (ad 1)), (1, .int (nI d)), (2, .int x), (3, .ref (ad 8))]) hx hb d_Sh_measure_53 hl (by decide) rfl (fun ls hl => ?_)
            refine lv_iload hx hb d_Sh_measure_55 (lv_at hl 4 rfl) ?_
            refine lv_iload hx hb d_Sh_measure_57 (lv_at hl 2 rfl) ?_
            refine va_mmax (x := (grF (u.1 (22 + d)) x t)) (y := (u.1 (22 + d) t)) hx hb (by rw [hml]; exact hl.1.symm) hown (ht _ w_256) (ht _ w_257) (ht _ w_10) (ht _ w_258) (by decide) (Nat.le_of_ble_eq_true rfl) (Nat.zero_le _) (Nat.zero_le _) d_Sh_measure_59 ?_
            refine lv_istore (lv' := [(6, .int (if (grF (u.1 (22 + d)) x t) < (u.1 (22 + d) t) then (u.1 (22 + d) t) else (grF (u.1 (22 + d)) x t))), (5, .int ((selF (u.1 (22 + d)) x t) + (u.1 (22 + d) t))), (4, .int ((hadF (u.1 (22 + d)) x t) + 1)), (8, .int (u.1 (22 + d) t)), (7, .int (nI t)), (0, .ref (ad 1)), (1, .int (nI d)), (2, .int x), (3, .ref (ad 8))]) hx hb d_Sh_measure_62 hl (by decide) rfl (fun ls hl => ?_)
            refine lv_iinc (v := (nI (t + 1))) (lv' := [(7, .int (nI (t + 1))), (6, .int (if (grF (u.1 (22 + d)) x t) < (u.1 (22 + d) t) then (u.1 (22 + d) t) else (grF (u.1 (22 + d)) x t))), (5, .int ((selF (u.1 (22 + d)) x t) + (u.1 (22 + d) t))), (4, .int ((hadF (u.1 (22 + d)) x t) + 1)), (8, .int (u.1 (22 + d) t)), (0, .ref (ad 1)), (1, .int (nI d)), (2, .int x), (3, .ref (ad 8))]) hx hb d_Sh_measure_64 hl (k := 4) rfl (nI_1 _) (by decide) rfl (fun ls hl => ?_)
            refine lv_goto (tgt := 12) hx hb d_Sh_measure_67 (by decide) ?_
            exact ih12 (t + 1) (by omega) (by omega) _ _ hw ls (by rw [← (show ((hadF (u.1 (22 + d)) x t) + 1) = (hadF (u.1 (22 + d)) x (t + 1)) from (by simp only [hadF]; first | (rw [if_pos (sel1 (hnn t (by omega)) c32)]; done) | (rw [if_pos (sel2 c42)]; done) | (rw [if_neg (sel3 c32 c42)]; done) | (rw [if_neg (sel3 c32 c42)]; exact max_eq _ _))), ← (show ((selF (u.1 (22 + d)) x t) + (u.1 (22 + d) t)) = (selF (u.1 (22 + d)) x (t + 1)) from (by simp only [selF]; first | (rw [if_pos (sel1 (hnn t (by omega)) c32)]; done) | (rw [if_pos (sel2 c42)]; done) | (rw [if_neg (sel3 c32 c42)]; done) | (rw [if_neg (sel3 c32 c42)]; exact max_eq _ _))), ← (show (if (grF (u.1 (22 + d)) x t) < (u.1 (22 + d) t) then (u.1 (22 + d) t) else (grF (u.1 (22 + d)) x t)) = (grF (u.1 (22 + d)) x (t + 1)) from (by simp only [grF]; first | (rw [if_pos (sel1 (hnn t (by omega)) c32)]; done) | (rw [if_pos (sel2 c42)]; done) | (rw [if_neg (sel3 c32 c42)]; done) | (rw [if_neg (sel3 c32 c42)]; exact max_eq _ _)))]; exact lv_sub hl [0, 1, 2, 3, 5, 6, 7, 8] rfl)
  exact L12 ((12 - 0) + 1) (0) (by omega) (by omega) _ _ hw ls (lv_sub hl [0, 1, 2, 3, 4, 5, 6, 7] rfl))
set_option maxHeartbeats 4000000 in
set_option maxRecDepth 100000 in
theorem m_M_featureOf {l : Launch} {D : va_G} {g : Ids} {ad : Nat → Nat} {u : St} (q : Nat) (d : Nat) (f : Int32) (hq : q < 8) (hd : d < 16) : XMi l D g ad y_M_featureOf b_M_featureOf 10 ((some .int)) (rmN 0 0) [.ref (ad 75), .int (nI q), .int (nI d), .int f] u (fun v w => v = featF (fun i => u.1 78 (d * 12 + i)) (u.1 79 q) (u.1 77 d) f ∧ w = u) := fun sz => x_met (by decide) (Nat.le_of_ble_eq_true rfl) (fun p e s m below meth c hsz hx hb hr hml hown ht hlk hw ls hl => by
  have hA : ∀ q, s.heap.size ≤ q → AX ad sz q := fun q h => Or.inr (hsz ▸ h)
  have hl : lv_has ls 10 [(0, .ref (ad 75)), (1, .int (nI q)), (2, .int (nI d)), (3, .int f)] := hl
  refine lv_iload_n hx hb d_M_featureOf_0 rfl (lv_at hl 3 rfl) ?_
  refine lv_iconst (v := 3) hx hb d_M_featureOf_1 (by decide) ?_
  refine lv_icmp_ne (tgt := 12) hx hb d_M_featureOf_2 (by decide) (fun c2 => ?_) (fun c2 => ?_)
  · refine lv_iconst (v := 0) hx hb d_M_featureOf_12 (by decide) ?_
    refine lv_istore (lv' := [(4, .int 0), (0, .ref (ad 75)), (1, .int (nI q)), (2, .int (nI d)), (3, .int f)]) hx hb d_M_featureOf_13 hl (by decide) rfl (fun ls hl => ?_)
    refine lv_iconst (v := 0) hx hb d_M_featureOf_15 (by decide) ?_
    refine lv_istore (lv' := [(5, .int 0), (4, .int 0), (0, .ref (ad 75)), (1, .int (nI q)), (2, .int (nI d)), (3, .int f)]) hx hb d_M_featureOf_16 hl (by decide) rfl (fun ls hl => ?_)
    refine lv_iconst (v := 0) hx hb d_M_featureOf_18 (by decide) ?_
    refine lv_istore (lv' := [(6, .int 0), (5, .int 0), (4, .int 0), (0, .ref (ad 75)), (1, .int (nI q)), (2, .int (nI d)), (3, .int f)]) hx hb d_M_featureOf_19 hl (by decide) rfl (fun ls hl => ?_)
    refine lv_iconst (v := 0) hx hb d_M_featureOf_21 (by decide) ?_
    refine lv_istore (lv' := [(7, .int 0), (6, .int 0), (5, .int 0), (4, .int 0), (0, .ref (ad 75)), (1, .int (nI q)), (2, .int (nI d)), (3, .int f)]) hx hb d_M_featureOf_22 hl (by decide) rfl (fun ls hl => ?_)
    refine lv_iconst (v := 0) hx hb d_M_featureOf_24 (by decide) ?_
    refine lv_istore (lv' := [(8, .int 0), (7, .int 0), (6, .int 0), (5, .int 0), (4, .int 0), (0, .ref (ad 75)), (1, .int (nI q)), (2, .int (nI d)), (3, .int f)]) hx hb d_M_featureOf_25 hl (by decide) rfl (fun ls hl => ?_)
    have L27 : ∀ (n27 : Nat) (t : Nat), t ≤ 12 → 12 - t < n27 → ∀ (H : Heap) (locs : List Loc), XH D g ad (AX ad sz) s s.heap H locs u → ∀ ls : Array Slot, lv_has ls 10 [(8, .int (nI t)), (7, .int (grF (fun i => u.1 78 (d * 12 + i)) (u.1 79 q) t)), (6, .int (sumF (fun i => u.1 78 (d * 12 + i)) t)), (5, .int (selF (fun i => u.1 78 (d * 12 + i)) (u.1 79 q) t)), (4, .int (hadF (fun i => u.1 78 (d * 12 + i)) (u.1 79 q) t)), (0, .ref (ad 75)), (1, .int (nI q)), (2, .int (nI d)), (3, .int f)] → W p l e (rmN 0 0) s m ([.ref (ad 75), .int (nI q), .int (nI d), .int f] : List Value).toArray below meth c H locs 0 0 (MQ below (va_Qi (fun v w => v = featF (fun i => u.1 78 (d * 12 + i)) (u.1 79 q) (u.1 77 d) f ∧ w = u) (XB D g ad sz) (AX ad sz)) ([.ref (ad 75), .int (nI q), .int (nI d), .int f] : List Value).toArray s 0 0 (AX ad sz)) (F0 m 27 ls []) := by
      intro n27
      induction n27 with
      | zero => intro t h1 hz; exact absurd hz (by omega)
      | succ n27 ih27 =>
        intro t h1 hnL27 H locs hw ls hl
        refine lv_iload hx hb d_M_featureOf_27 (lv_at hl 0 rfl) ?_
        refine lv_bipush (v := 12) hx hb d_M_featureOf_29 (by decide) ?_
        refine lv_icmp_ge (tgt := 104) hx hb d_M_featureOf_31 (by decide) (fun c31 => ?_) (fun c31 => ?_)
        · have h31 : (12) ≤ (t) := (nI_leI (a := 12) (b := t) (by omega) (by omega)).mp c31
          refine lv_iload_n hx hb d_M_featureOf_104 rfl (lv_at hl 8 rfl) ?_
          refine lv_if_ne (tgt := 113) hx hb d_M_featureOf_105 (by decide) (fun c105 => ?_) (fun c105 => ?_)
          · refine lv_iload_n hx hb d_M_featureOf_113 rfl (lv_at hl 8 rfl) ?_
            refine lv_iconst (v := 1) hx hb d_M_featureOf_114 (by decide) ?_
            refine lv_icmp_ne (tgt := 123) hx hb d_M_featureOf_115 (by decide) (fun c115 => ?_) (fun c115 => ?_)
            · refine lv_iload_n hx hb d_M_featureOf_123 rfl (lv_at hl 8 rfl) ?_
              refine lv_iconst (v := 2) hx hb d_M_featureOf_124 (by decide) ?_
              refine lv_icmp_ne (tgt := 133) hx hb d_M_featureOf_125 (by decide) (fun c125 => ?_) (fun c125 => ?_)
              · refine lv_iload hx hb d_M_featureOf_133 (lv_at hl 1 rfl) ?_
                exact x_iret hsz hx hb hr hlk hw ⟨by unfold featF; rw [show t = 12 by omega]; simp [c2, c31, c105, c115, c125], rfl⟩ d_M_featureOf_135
              · refine lv_iload hx hb d_M_featureOf_128 (lv_at hl 2 rfl) ?_
                refine lv_goto (tgt := 135) hx hb d_M_featureOf_130 (by decide) ?_
                exact x_iret hsz hx hb hr hlk hw ⟨by unfold featF; rw [show t = 12 by omega]; simp [c2, c31, c105, c115, c125], rfl⟩ d_M_featureOf_135
            · refine lv_iload hx hb d_M_featureOf_118 (lv_at hl 3 rfl) ?_
              refine lv_goto (tgt := 135) hx hb d_M_featureOf_120 (by decide) ?_
              exact x_iret hsz hx hb hr hlk hw ⟨by unfold featF; rw [show t = 12 by omega]; simp [c2, c31, c105, c115], rfl⟩ d_M_featureOf_135
          · refine lv_iload hx hb d_M_featureOf_108 (lv_at hl 4 rfl) ?_
            refine lv_goto (tgt := 135) hx hb d_M_featureOf_110 (by decide) ?_
            exact x_iret hsz hx hb hr hlk hw ⟨by unfold featF; rw [show t = 12 by omega]; simp [c2, c31, c105], rfl⟩ d_M_featureOf_135
        · have h31 : ¬ (12) ≤ (t) := fun hz9 => c31 ((nI_leI (a := 12) (b := t) (by omega) (by omega)).mpr hz9)
          refine lv_aload_n hx hb d_M_featureOf_34 rfl (lv_at hl 5 rfl) ?_
          refine x_get (ci := 7) (k := 75) hx hb ht in_M hown hw (by decide) o_M rfl 2 (by decide) (ht _ w_488) rfl d_M_featureOf_35 ?_
          refine lv_iload_n hx hb d_M_featureOf_38 rfl (lv_at hl 7 rfl) ?_
          refine lv_bipush (v := 12) hx hb d_M_featureOf_39 (by decide) ?_
          refine lv_imul hx hb d_M_featureOf_41 ?_
          rw [show ((nI d) * 12) = (nI (d * 12)) from pk_mul _ _]
          refine lv_iload hx hb d_M_featureOf_42 (lv_at hl 0 rfl) ?_
          refine lv_iadd hx hb d_M_featureOf_44 ?_
          rw [show ((nI (d * 12)) + (nI t)) = (nI (d * 12 + t)) from nI_add _ _]
          refine x_iald (k := 78) hx hb hw (by decide) rfl (vin (N := 192) (by omega) rfl (by omega)) d_M_featureOf_45 ?_
          rw [nI_clamp (n := d * 12 + t) (by omega)]
          refine lv_istore (lv' := [(9, .int (u.1 78 (d * 12 + t))), (8, .int (nI t)), (7, .int (grF (fun i => u.1 78 (d * 12 + i)) (u.1 79 q) t)), (6, .int (sumF (fun i => u.1 78 (d * 12 + i)) t)), (5, .int (selF (fun i => u.1 78 (d * 12 + i)) (u.1 79 q) t)), (4, .int (hadF (fun i => u.1 78 (d * 12 + i)) (u.1 79 q) t)), (0, .ref (ad 75)), (1, .int (nI q)), (2, .int (nI d)), (3, .int f)]) hx hb d_M_featureOf_46 hl (by decide) rfl (fun ls hl => ?_)
          refine lv_iload hx hb d_M_featureOf_48 (lv_at hl 3 rfl) ?_
          refine lv_iload hx hb d_M_featureOf_50 (lv_at hl 0 rfl) ?_
          refine lv_iadd hx hb d_M_featureOf_52 ?_
          refine lv_istore (lv' := [(6, .int ((sumF (fun i => u.1 78 (d * 12 + i)) t) + (u.1 78 (d * 12 + t)))), (9, .int (u.1 78 (d * 12 + t))), (8, .int (nI t)), (7, .int (grF (fun i => u.1 78 (d * 12 + i)) (u.1 79 q) t)), (5, .int (selF (fun i => u.1 78 (d * 12 + i)) (u.1 79 q) t)), (4, .int (hadF (fun i => u.1 78 (d * 12 + i)) (u.1 79 q) t)), (0, .ref (ad 75)), (1, .int (nI q)), (2, .int (nI d)), (3, .int f)]) hx hb d_M_featureOf_53 hl (by decide) rfl (fun ls hl => ?_)
          refine lv_aload_n hx hb d_M_featureOf_55 rfl (lv_at hl 6 rfl) ?_
          refine x_get (ci := 7) (k := 75) hx hb ht in_M hown hw (by decide) o_M rfl 3 (by decide) (ht _ w_489) rfl d_M_featureOf_56 ?_
          refine lv_iload_n hx hb d_M_featureOf_59 rfl (lv_at hl 7 rfl) ?_
          refine x_iald (k := 79) hx hb hw (by decide) rfl (vin (N := 8) (by omega) rfl (by omega)) d_M_featureOf_60 ?_
          rw [nI_clamp (n := q) (by omega)]
          refine lv_iload hx hb d_M_featureOf_61 (lv_at hl 2 rfl) ?_
          refine lv_ishr hx hb d_M_featureOf_63 ?_
          refine lv_iconst (v := 1) hx hb d_M_featureOf_64 (by decide) ?_
          refine lv_iand hx hb d_M_featureOf_65 ?_
          refine lv_if_eq (tgt := 98) hx hb d_M_featureOf_66 (by decide) (fun c66 => ?_) (fun c66 => ?_)
          · refine lv_iinc (v := (nI (t + 1))) (lv' := [(8, .int (nI (t + 1))), (6, .int ((sumF (fun i => u.1 78 (d * 12 + i)) t) + (u.1 78 (d * 12 + t)))), (9, .int (u.1 78 (d * 12 + t))), (7, .int (grF (fun i => u.1 78 (d * 12 + i)) (u.1 79 q) t)), (5, .int (selF (fun i => u.1 78 (d * 12 + i)) (u.1 79 q) t)), (4, .int (hadF (fun i => u.1 78 (d * 12 + i)) (u.1 79 q) t)), (0, .ref (ad 75)), (1, .int (nI q)), (2, .int (nI d)), (3, .int f)]) hx hb d_M_featureOf_98 hl (k := 2) rfl (nI_1 _) (by decide) rfl (fun ls hl => ?_)
            refine lv_goto (tgt := 27) hx hb d_M_featureOf_101 (by decide) ?_
            exact ih27 (t + 1) (by omega) (by omega) _ _ hw ls (by rw [← (show (hadF (fun i => u.1 78 (d * 12 + i)) (u.1 79 q) t) = (hadF (fun i => u.1 78 (d * 12 + i)) (u.1 79 q) (t + 1)) from (by simp only [hadF]; first | (rw [if_pos (sel66 c66)]; done) | (rw [if_pos (Or.inl c71)]; done) | (rw [if_neg (selm3 c66 c71)]; done) | (rw [if_neg (selm3 c66 c71), if_pos c91]; done) | (rw [if_neg (selm3 c66 c71), if_neg c91]; done))), ← (show (selF (fun i => u.1 78 (d * 12 + i)) (u.1 79 q) t) = (selF (fun i => u.1 78 (d * 12 + i)) (u.1 79 q) (t + 1)) from (by simp only [selF]; first | (rw [if_pos (sel66 c66)]; done) | (rw [if_pos (Or.inl c71)]; done) | (rw [if_neg (selm3 c66 c71)]; done) | (rw [if_neg (selm3 c66 c71), if_pos c91]; done) | (rw [if_neg (selm3 c66 c71), if_neg c91]; done))), ← (show (grF (fun i => u.1 78 (d * 12 + i)) (u.1 79 q) t) = (grF (fun i => u.1 78 (d * 12 + i)) (u.1 79 q) (t + 1)) from (by simp only [grF]; first | (rw [if_pos (sel66 c66)]; done) | (rw [if_pos (Or.inl c71)]; done) | (rw [if_neg (selm3 c66 c71)]; done) | (rw [if_neg (selm3 c66 c71), if_pos c91]; done) | (rw [if_neg (selm3 c66 c71), if_neg c91]; done)))]; exact lv_sub hl [0, 3, 1, 4, 5, 6, 7, 8, 9] rfl)
          · refine lv_iload hx hb d_M_featureOf_69 (lv_at hl 1 rfl) ?_
            refine lv_if_ne (tgt := 77) hx hb d_M_featureOf_71 (by decide) (fun c71 => ?_) (fun c71 => ?_)
            · refine lv_iinc (v := ((hadF (fun i => u.1 78 (d * 12 + i)) (u.1 79 q) t) + 1)) (lv' := [(4, .int ((hadF (fun i => u.1 78 (d * 12 + i)) (u.1 79 q) t) + 1)), (6, .int ((sumF (fun i => u.1 78 (d * 12 + i)) t) + (u.1 78 (d * 12 + t)))), (9, .int (u.1 78 (d * 12 + t))), (8, .int (nI t)), (7, .int (grF (fun i => u.1 78 (d * 12 + i)) (u.1 79 q) t)), (5, .int (selF (fun i => u.1 78 (d * 12 + i)) (u.1 79 q) t)), (0, .ref (ad 75)), (1, .int (nI q)), (2, .int (nI d)), (3, .int f)]) hx hb d_M_featureOf_77 hl (k := 5) rfl rfl (by decide) rfl (fun ls hl => ?_)
              refine lv_iload hx hb d_M_featureOf_80 (lv_at hl 5 rfl) ?_
              refine lv_iload hx hb d_M_featureOf_82 (lv_at hl 2 rfl) ?_
              refine lv_iadd hx hb d_M_featureOf_84 ?_
              refine lv_istore (lv' := [(5, .int ((selF (fun i => u.1 78 (d * 12 + i)) (u.1 79 q) t) + (u.1 78 (d * 12 + t)))), (4, .int ((hadF (fun i => u.1 78 (d * 12 + i)) (u.1 79 q) t) + 1)), (6, .int ((sumF (fun i => u.1 78 (d * 12 + i)) t) + (u.1 78 (d * 12 + t)))), (9, .int (u.1 78 (d * 12 + t))), (8, .int (nI t)), (7, .int (grF (fun i => u.1 78 (d * 12 + i)) (u.1 79 q) t)), (0, .ref (ad 75)), (1, .int (nI q)), (2, .int (nI d)), (3, .int f)]) hx hb d_M_featureOf_85 hl (by decide) rfl (fun ls hl => ?_)
              refine lv_iload hx hb d_M_featureOf_87 (lv_at hl 3 rfl) ?_
              refine lv_iload hx hb d_M_featureOf_89 (lv_at hl 5 rfl) ?_
              refine lv_icmp_le (tgt := 98) hx hb d_M_featureOf_91 (by decide) (fun c91 => ?_) (fun c91 => ?_)
              · refine lv_iinc (v := (nI (t + 1))) (lv' := [(8, .int (nI (t + 1))), (5, .int ((selF (fun i => u.1 78 (d * 12 + i)) (u.1 79 q) t) + (u.1 78 (d * 12 + t)))), (4, .int ((hadF (fun i => u.1 78 (d * 12 + i)) (u.1 79 q) t) + 1)), (6, .int ((sumF (fun i => u.1 78 (d * 12 + i)) t) + (u.1 78 (d * 12 + t)))), (9, .int (u.1 78 (d * 12 + t))), (7, .int (grF (fun i => u.1 78 (d * 12 + i)) (u.1 79 q) t)), (0, .ref (ad 75)), (1, .int (nI q)), (2, .int (nI d)), (3, .int f)]) hx hb d_M_featureOf_98 hl (k := 4) rfl (nI_1 _) (by decide) rfl (fun ls hl => ?_)
                refine lv_goto (tgt := 27) hx hb d_M_featureOf_101 (by decide) ?_
                exact ih27 (t + 1) (by omega) (by omega) _ _ hw ls (by rw [← (show ((hadF (fun i => u.1 78 (d * 12 + i)) (u.1 79 q) t) + 1) = (hadF (fun i => u.1 78 (d * 12 + i)) (u.1 79 q) (t + 1)) from (by simp only [hadF]; first | (rw [if_pos (sel66 c66)]; done) | (rw [if_pos (Or.inl c71)]; done) | (rw [if_neg (selm3 c66 c71)]; done) | (rw [if_neg (selm3 c66 c71), if_pos c91]; done) | (rw [if_neg (selm3 c66 c71), if_neg c91]; done))), ← (show ((selF (fun i => u.1 78 (d * 12 + i)) (u.1 79 q) t) + (u.1 78 (d * 12 + t))) = (selF (fun i => u.1 78 (d * 12 + i)) (u.1 79 q) (t + 1)) from (by simp only [selF]; first | (rw [if_pos (sel66 c66)]; done) | (rw [if_pos (Or.inl c71)]; done) | (rw [if_neg (selm3 c66 c71)]; done) | (rw [if_neg (selm3 c66 c71), if_pos c91]; done) | (rw [if_neg (selm3 c66 c71), if_neg c91]; done))), ← (show (grF (fun i => u.1 78 (d * 12 + i)) (u.1 79 q) t) = (grF (fun i => u.1 78 (d * 12 + i)) (u.1 79 q) (t + 1)) from (by simp only [grF]; first | (rw [if_pos (sel66 c66)]; done) | (rw [if_pos (Or.inl c71)]; done) | (rw [if_neg (selm3 c66 c71)]; done) | (rw [if_neg (selm3 c66 c71), if_pos c91]; done) | (rw [if_neg (selm3 c66 c71), if_neg c91]; done)))]; exact lv_sub hl [0, 5, 3, 1, 2, 6, 7, 8, 9] rfl)
              · refine lv_iload hx hb d_M_featureOf_94 (lv_at hl 3 rfl) ?_
                refine lv_istore (lv' := [(7, .int (u.1 78 (d * 12 + t))), (5, .int ((selF (fun i => u.1 78 (d * 12 + i)) (u.1 79 q) t) + (u.1 78 (d * 12 + t)))), (4, .int ((hadF (fun i => u.1 78 (d * 12 + i)) (u.1 79 q) t) + 1)), (6, .int ((sumF (fun i => u.1 78 (d * 12 + i)) t) + (u.1 78 (d * 12 + t)))), (9, .int (u.1 78 (d * 12 + t))), (8, .int (nI t)), (0, .ref (ad 75)), (1, .int (nI q)), (2, .int (nI d)), (3, .int f)]) hx hb d_M_featureOf_96 hl (by decide) rfl (fun ls hl => ?_)
                refine lv_iinc (v := (nI (t + 1))) (lv' := [(8, .int (nI (t + 1))), (7, .int (u.1 78 (d * 12 + t))), (5, .int ((selF (fun i => u.1 78 (d * 12 + i)) (u.1 79 q) t) + (u.1 78 (d * 12 + t)))), (4, .int ((hadF (fun i => u.1 78 (d * 12 + i)) (u.1 79 q) t) + 1)), (6, .int ((sumF (fun i => u.1 78 (d * 12 + i)) t) + (u.1 78 (d * 12 + t)))), (9, .int (u.1 78 (d * 12 + t))), (0, .ref (ad 75)), (1, .int (nI q)), (2, .int (nI d)), (3, .int f)]) hx hb d_M_featureOf_98 hl (k := 5) rfl (nI_1 _) (by decide) rfl (fun ls hl => ?_)
                refine lv_goto (tgt := 27) hx hb d_M_featureOf_101 (by decide) ?_
                exact ih27 (t + 1) (by omega) (by omega) _ _ hw ls (by rw [← (show ((hadF (fun i => u.1 78 (d * 12 + i)) (u.1 79 q) t) + 1) = (hadF (fun i => u.1 78 (d * 12 + i)) (u.1 79 q) (t + 1)) from (by simp only [hadF]; first | (rw [if_pos (sel66 c66)]; done) | (rw [if_pos (Or.inl c71)]; done) | (rw [if_neg (selm3 c66 c71)]; done) | (rw [if_neg (selm3 c66 c71), if_pos c91]; done) | (rw [if_neg (selm3 c66 c71), if_neg c91]; done))), ← (show ((selF (fun i => u.1 78 (d * 12 + i)) (u.1 79 q) t) + (u.1 78 (d * 12 + t))) = (selF (fun i => u.1 78 (d * 12 + i)) (u.1 79 q) (t + 1)) from (by simp only [selF]; first | (rw [if_pos (sel66 c66)]; done) | (rw [if_pos (Or.inl c71)]; done) | (rw [if_neg (selm3 c66 c71)]; done) | (rw [if_neg (selm3 c66 c71), if_pos c91]; done) | (rw [if_neg (selm3 c66 c71), if_neg c91]; done))), ← (show (u.1 78 (d * 12 + t)) = (grF (fun i => u.1 78 (d * 12 + i)) (u.1 79 q) (t + 1)) from (by simp only [grF]; first | (rw [if_pos (sel66 c66)]; done) | (rw [if_pos (Or.inl c71)]; done) | (rw [if_neg (selm3 c66 c71)]; done) | (rw [if_neg (selm3 c66 c71), if_pos c91]; done) | (rw [if_neg (selm3 c66 c71), if_neg c91]; done)))]; exact lv_sub hl [0, 1, 4, 2, 3, 6, 7, 8, 9] rfl)
            · refine lv_goto (tgt := 98) hx hb d_M_featureOf_74 (by decide) ?_
              refine lv_iinc (v := (nI (t + 1))) (lv' := [(8, .int (nI (t + 1))), (6, .int ((sumF (fun i => u.1 78 (d * 12 + i)) t) + (u.1 78 (d * 12 + t)))), (9, .int (u.1 78 (d * 12 + t))), (7, .int (grF (fun i => u.1 78 (d * 12 + i)) (u.1 79 q) t)), (5, .int (selF (fun i => u.1 78 (d * 12 + i)) (u.1 79 q) t)), (4, .int (hadF (fun i => u.1 78 (d * 12 + i)) (u.1 79 q) t)), (0, .ref (ad 75)), (1, .int (nI q)), (2, .int (nI d)), (3, .int f)]) hx hb d_M_featureOf_98 hl (k := 2) rfl (nI_1 _) (by decide) rfl (fun ls hl => ?_)
              refine lv_goto (tgt := 27) hx hb d_M_featureOf_101 (by decide) ?_
              exact ih27 (t + 1) (by omega) (by omega) _ _ hw ls (by rw [← (show (hadF (fun i => u.1 78 (d * 12 + i)) (u.1 79 q) t) = (hadF (fun i => u.1 78 (d * 12 + i)) (u.1 79 q) (t + 1)) from (by simp only [hadF]; first | (rw [if_pos (sel66 c66)]; done) | (rw [if_pos (Or.inl c71)]; done) | (rw [if_neg (selm3 c66 c71)]; done) | (rw [if_neg (selm3 c66 c71), if_pos c91]; done) | (rw [if_neg (selm3 c66 c71), if_neg c91]; done))), ← (show (selF (fun i => u.1 78 (d * 12 + i)) (u.1 79 q) t) = (selF (fun i => u.1 78 (d * 12 + i)) (u.1 79 q) (t + 1)) from (by simp only [selF]; first | (rw [if_pos (sel66 c66)]; done) | (rw [if_pos (Or.inl c71)]; done) | (rw [if_neg (selm3 c66 c71)]; done) | (rw [if_neg (selm3 c66 c71), if_pos c91]; done) | (rw [if_neg (selm3 c66 c71), if_neg c91]; done))), ← (show (grF (fun i => u.1 78 (d * 12 + i)) (u.1 79 q) t) = (grF (fun i => u.1 78 (d * 12 + i)) (u.1 79 q) (t + 1)) from (by simp only [grF]; first | (rw [if_pos (sel66 c66)]; done) | (rw [if_pos (Or.inl c71)]; done) | (rw [if_neg (selm3 c66 c71)]; done) | (rw [if_neg (selm3 c66 c71), if_pos c91]; done) | (rw [if_neg (selm3 c66 c71), if_neg c91]; done)))]; exact lv_sub hl [0, 3, 1, 4, 5, 6, 7, 8, 9] rfl)
    exact L27 ((12 - 0) + 1) (0) (by omega) (by omega) _ _ hw ls (lv_sub hl [0, 1, 2, 3, 4, 5, 6, 7, 8] rfl)
  · refine lv_aload_n hx hb d_M_featureOf_5 rfl (lv_at hl 0 rfl) ?_
    refine x_get (ci := 7) (k := 75) hx hb ht in_M hown hw (by decide) o_M rfl 1 (by decide) (ht _ w_487) rfl d_M_featureOf_6 ?_
    refine lv_iload_n hx hb d_M_featureOf_9 rfl (lv_at hl 2 rfl) ?_
    refine x_iald (k := 77) hx hb hw (by decide) rfl (vin (N := 16) (by omega) rfl (by omega)) d_M_featureOf_10 ?_
    rw [nI_clamp (n := d) (by omega)]
    exact x_iret hsz hx hb hr hlk hw ⟨by unfold featF; rw [if_pos c2], rfl⟩ d_M_featureOf_11)
set_option maxHeartbeats 4000000 in
set_option maxRecDepth 100000 in
theorem m_M_share {l : Launch} {D : va_G} {g : Ids} {ad : Nat → Nat} {u : St} (n : Nat) (hn16 : n ≤ 16) : XMi l D g ad y_M_share b_M_share 2 ((some .int)) (rmN 0 0) [.int (nI n)] u (fun v w => v = nI (shareN n) ∧ w = u) := fun sz => x_met (by decide) (Nat.le_of_ble_eq_true rfl) (fun p e s m below meth c hsz hx hb hr hml hown ht hlk hw ls hl => by
  have hA : ∀ q, s.heap.size ≤ q → AX ad sz q := fun q h => Or.inr (hsz ▸ h)
  have hl : lv_has ls 2 [(0, .int (nI n))] := hl
  refine lv_iconst (v := 1) hx hb d_M_share_0 (by decide) ?_
  refine lv_istore_n (lv' := [(1, .int 1), (0, .int (nI n))]) hx hb d_M_share_1 rfl hl (by decide) rfl (fun ls hl => ?_)
  have L2 : ∀ (n2 : Nat) (a : Nat), a = 1 ∨ a = 2 ∨ a = 4 ∨ a = 8 ∨ a = 16 → a = 1 ∨ a < 2 * n → 16 - a < n2 → ∀ (H : Heap) (locs : List Loc), XH D g ad (AX ad sz) s s.heap H locs u → ∀ ls : Array Slot, lv_has ls 2 [(1, .int (nI a)), (0, .int (nI n))] → W p l e (rmN 0 0) s m ([.int (nI n)] : List Value).toArray below meth c H locs 0 0 (MQ below (va_Qi (fun v w => v = nI (shareN n) ∧ w = u) (XB D g ad sz) (AX ad sz)) ([.int (nI n)] : List Value).toArray s 0 0 (AX ad sz)) (F0 m 2 ls []) := by
    intro n2
    induction n2 with
    | zero => intro a ha hlo hz; exact absurd hz (by omega)
    | succ n2 ih2 =>
      intro a ha hlo hnL2 H locs hw ls hl
      refine lv_iload_n hx hb d_M_share_2 rfl (lv_at hl 0 rfl) ?_
      refine lv_iload_n hx hb d_M_share_3 rfl (lv_at hl 1 rfl) ?_
      refine lv_icmp_ge (tgt := 14) hx hb d_M_share_4 (by decide) (fun c4 => ?_) (fun c4 => ?_)
      · have h4 : (n) ≤ (a) := (nI_leI (a := n) (b := a) (by omega) (by omega)).mp c4
        refine lv_iload_n hx hb d_M_share_14 rfl (lv_at hl 0 rfl) ?_
        exact x_iret hsz hx hb hr hlk hw ⟨by rw [shareN_eq ha hlo (by omega) hn16], rfl⟩ d_M_share_15
      · have h4 : ¬ (n) ≤ (a) := fun hz9 => c4 ((nI_leI (a := n) (b := a) (by omega) (by omega)).mpr hz9)
        refine lv_iload_n hx hb d_M_share_7 rfl (lv_at hl 0 rfl) ?_
        refine lv_iconst (v := 2) hx hb d_M_share_8 (by decide) ?_
        refine lv_imul hx hb d_M_share_9 ?_
        rw [show ((nI a) * 2) = (nI (a * 2)) from pk_mul _ _]
        refine lv_istore_n (lv' := [(1, .int (nI (a * 2))), (0, .int (nI n))]) hx hb d_M_share_10 rfl hl (by decide) rfl (fun ls hl => ?_)
        refine lv_goto (tgt := 2) hx hb d_M_share_11 (by decide) ?_
        exact ih2 (a * 2) (by omega) (by omega) (by omega) _ _ hw ls (lv_sub hl [0, 1] rfl)
  exact L2 ((16 - 1) + 1) (1) (Or.inl rfl) (Or.inl rfl) (by omega) _ _ hw ls (lv_sub hl [0, 1] rfl))
set_option maxHeartbeats 4000000 in
set_option maxRecDepth 100000 in
theorem m_Gr_share {l : Launch} {D : va_G} {g : Ids} {ad : Nat → Nat} {u : St} (n : Int32) : XMi l D g ad y_Gr_share b_Gr_share 2 ((some .int)) (rmN 0 0) [.int n] u (fun v w => v = nI (shareI n) ∧ w = u) := fun sz => x_met (by decide) (Nat.le_of_ble_eq_true rfl) (fun p e s m below meth c hsz hx hb hr hml hown ht hlk hw ls hl => by
  have hA : ∀ q, s.heap.size ≤ q → AX ad sz q := fun q h => Or.inr (hsz ▸ h)
  have hl : lv_has ls 2 [(0, .int n)] := hl
  refine lv_iconst (v := 1) hx hb d_Gr_share_0 (by decide) ?_
  refine lv_istore_n (lv' := [(1, .int 1), (0, .int n)]) hx hb d_Gr_share_1 rfl hl (by decide) rfl (fun ls hl => ?_)
  have L2 : ∀ (n2 : Nat) (a : Nat), a = 1 ∨ a = 2 ∨ a = 4 ∨ a = 8 ∨ a = 16 → a = 1 ∨ ¬ n ≤ nI (a / 2) → 16 - a < n2 → ∀ (H : Heap) (locs : List Loc), XH D g ad (AX ad sz) s s.heap H locs u → ∀ ls : Array Slot, lv_has ls 2 [(1, .int (nI a)), (0, .int n)] → W p l e (rmN 0 0) s m ([.int n] : List Value).toArray below meth c H locs 0 0 (MQ below (va_Qi (fun v w => v = nI (shareI n) ∧ w = u) (XB D g ad sz) (AX ad sz)) ([.int n] : List Value).toArray s 0 0 (AX ad sz)) (F0 m 2 ls []) := by
    intro n2
    induction n2 with
    | zero => intro a ha hlo hz; exact absurd hz (by omega)
    | succ n2 ih2 =>
      intro a ha hlo hnL2 H locs hw ls hl
      refine lv_iload_n hx hb d_Gr_share_2 rfl (lv_at hl 0 rfl) ?_
      refine lv_iload_n hx hb d_Gr_share_3 rfl (lv_at hl 1 rfl) ?_
      refine lv_icmp_ge (tgt := 20) hx hb d_Gr_share_4 (by decide) (fun c4 => ?_) (fun c4 => ?_)
      · refine lv_iload_n hx hb d_Gr_share_20 rfl (lv_at hl 0 rfl) ?_
        exact x_iret hsz hx hb hr hlk hw ⟨by first | rw [shareI_eq ha hlo (Or.inl c4)] | rw [shareI_eq ha hlo (Or.inr (by omega))], rfl⟩ d_Gr_share_21
      · refine lv_iload_n hx hb d_Gr_share_7 rfl (lv_at hl 0 rfl) ?_
        refine lv_bipush (v := 16) hx hb d_Gr_share_8 (by decide) ?_
        refine lv_icmp_ge (tgt := 20) hx hb d_Gr_share_10 (by decide) (fun c10 => ?_) (fun c10 => ?_)
        · have h10 : (16) ≤ (a) := (nI_leI (a := 16) (b := a) (by omega) (by omega)).mp c10
          refine lv_iload_n hx hb d_Gr_share_20 rfl (lv_at hl 0 rfl) ?_
          exact x_iret hsz hx hb hr hlk hw ⟨by first | rw [shareI_eq ha hlo (Or.inl c4)] | rw [shareI_eq ha hlo (Or.inr (by omega))], rfl⟩ d_Gr_share_21
        · have h10 : ¬ (16) ≤ (a) := fun hz9 => c10 ((nI_leI (a := 16) (b := a) (by omega) (by omega)).mpr hz9)
          refine lv_iload_n hx hb d_Gr_share_13 rfl (lv_at hl 0 rfl) ?_
          refine lv_iconst (v := 2) hx hb d_Gr_share_14 (by decide) ?_
          refine lv_imul hx hb d_Gr_share_15 ?_
          rw [show ((nI a) * 2) = (nI (a * 2)) from pk_mul _ _]
          refine lv_istore_n (lv' := [(1, .int (nI (a * 2))), (0, .int n)]) hx hb d_Gr_share_16 rfl hl (by decide) rfl (fun ls hl => ?_)
          refine lv_goto (tgt := 2) hx hb d_Gr_share_17 (by decide) ?_
          exact ih2 (a * 2) (by omega) (Or.inr (by rw [show a * 2 / 2 = a by omega]; exact c4)) (by omega) _ _ hw ls (lv_sub hl [0, 1] rfl)
  exact L2 ((16 - 1) + 1) (1) (Or.inl rfl) (Or.inl rfl) (by omega) _ _ hw ls (lv_sub hl [0, 1] rfl))
set_option maxHeartbeats 4000000 in
set_option maxRecDepth 100000 in
theorem m_Gr_worth {l : Launch} {D : va_G} {g : Ids} {ad : Nat → Nat} {u : St} (x : Int64) (n : Int32) : XMl l D g ad y_Gr_worth b_Gr_worth 3 ((some .long)) (rmN 1 21) [.long x, .int n] u (fun v w => v = worthI x n ∧ w = u) := fun sz => x_met (by decide) (Nat.le_of_ble_eq_true rfl) (fun p e s m below meth c hsz hx hb hr hml hown ht hlk hw ls hl => by
  have hA : ∀ q, s.heap.size ≤ q → AX ad sz q := fun q h => Or.inr (hsz ▸ h)
  have hl : lv_has ls 3 [(0, .long x), (2, .int n)] := hl
  refine lv_lload_n hx hb d_Gr_worth_0 rfl (lv_at hl 0 rfl) ?_
  refine lv_lload_n hx hb d_Gr_worth_1 rfl (lv_at hl 0 rfl) ?_
  refine lv_lmul hx hb d_Gr_worth_2 ?_
  refine lv_iload_n hx hb d_Gr_worth_3 rfl (lv_at hl 1 rfl) ?_
  refine x_ci (x_runS (na := 1) (As := [.int n]) (rest := [.long (x * x)]) ⟨hx, hb, hml, hown, ht⟩ (m_Gr_share n _) w_304 w_305 w_7 w_306 (by decide +kernel) ⟨rfl, rfl, by decide, by decide⟩ hw rfl hl.1 rfl (Nat.le_of_ble_eq_true rfl) d_Gr_worth_4 ⟨Nat.zero_le _, Nat.zero_le _⟩) hw hA (fun v4 u4 H locs hp hw => ?_)
  obtain ⟨hv9, hu⟩ := hp
  subst hv9
  have hu := hu.symm
  subst hu
  refine lv_i2l (v := (nI (shareI n)).toInt64) hx hb d_Gr_worth_7 rfl ?_
  refine lv_ldiv hx hb d_Gr_worth_8 (shareI_ne n) ?_
  exact x_lret hsz hx hb hr hlk hw ⟨rfl, rfl⟩ d_Gr_worth_9)
