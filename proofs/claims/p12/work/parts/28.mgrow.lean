def amF (u : St) (x : Int32) (f : Nat) (y : Int32) : Nat → Int32
  | 0 => 0
  | i + 1 => if u.1 86 i = x then (if u.1 85 (i * 5 + f) = y then 1 else amF u x f y i) else amF u x f y i
def stM (b : St) (x y : Int32) (f k t : Nat) : St := if amF b x f (nI t) k = 0 then b else if nI (szN b x f (nI t) 0 k) < y then b else if y ≤ nI (szN b x f (nI t) 1 k) then
  (if 0 < lg_cmp (partF b x f (nI t) 0 k + partF b x f (nI t) 1 k) (b.2.2.2 2) then sF (sF (sG b 2 (partF b x f (nI t) 0 k + partF b x f (nI t) 1 k)) 14 (nI f)) 15 (nI t) else b) else b
def tMF (a : St) (x y : Int32) (f k : Nat) : Nat → St
  | 0 => a
  | t + 1 => stM (tMF a x y f k t) x y f k t
def fMF (u : St) (x y : Int32) (k : Nat) : Nat → St
  | 0 => sG (sF u 14 (-1)) 2 (partF (sF u 14 (-1)) x 0 0 2 k)
  | f + 1 => tMF (fMF u x y k f) x y f k 200
set_option maxHeartbeats 4000000 in
set_option maxRecDepth 100000 in
theorem m_M_findSplit {l : Launch} {D : va_G} {g : Ids} {ad : Nat → Nat} {u : St} (x : Int32) (y : Int32) (k : Nat) (hk16 : k ≤ 16) (hns : u.2.2.1 12 = nI k) : XMv l D g ad y_M_findSplit b_M_findSplit 8 (none) (rmN 2 50) [.ref (ad 75), .int x, .int y] u (fun w => w = fMF u x y k 5) := fun sz => x_met (by decide) (Nat.le_of_ble_eq_true rfl) (fun p e s m below meth c hsz hx hb hr hml hown ht hlk hw ls hl => by
  have hA : ∀ q, s.heap.size ≤ q → AX ad sz q := fun q h => Or.inr (hsz ▸ h)
  have hl : lv_has ls 8 [(0, .ref (ad 75)), (1, .int x), (2, .int y)] := hl
  refine lv_aload_n hx hb d_M_findSplit_0 rfl (lv_at hl 0 rfl) ?_
  refine lv_iconst (v := (-1)) hx hb d_M_findSplit_1 (by decide) ?_
  refine x_puti (ci := 7) (k := 75) hx hb ht in_M t_M t_M_ok n_M hown hw (by decide) o_M rfl 19 (14) (by decide) (ht _ w_505) rfl (by decide +kernel) (Nat.le_of_ble_eq_true rfl) rfl rfl d_M_findSplit_2 (fun H locs hw => ?_)
  refine lv_aload_n hx hb d_M_findSplit_5 rfl (lv_at hl 0 rfl) ?_
  refine lv_aload_n hx hb d_M_findSplit_6 rfl (lv_at hl 0 rfl) ?_
  refine lv_iload_n hx hb d_M_findSplit_7 rfl (lv_at hl 1 rfl) ?_
  refine lv_iconst (v := 0) hx hb d_M_findSplit_8 (by decide) ?_
  refine lv_iconst (v := 0) hx hb d_M_findSplit_9 (by decide) ?_
  refine lv_iconst (v := 2) hx hb d_M_findSplit_10 (by decide) ?_
  refine x_cl (x_runV (na := 4) (k := 75) (As := [.int x, .int 0, .int 0, .int 2]) (rest := [.ref (ad 75)]) (ci := 7) ⟨hx, hb, hml, hown, ht⟩ (m_M_part (u := (sF u 14 (-1))) x 0 0 2 k (by omega) hk16 hns _) w_606 w_608 s_19 w_9 w_609 (by decide +kernel) ⟨rfl, rfl, by decide, by decide⟩ hw (by decide) o_M rfl rfl hl.1 rfl (Nat.le_of_ble_eq_true rfl) d_M_findSplit_11 ⟨Nat.zero_le _, Nat.zero_le _⟩) hw hA (fun v11 u11 H locs hp hw => ?_)
  obtain ⟨hv9, hu⟩ := hp
  subst hv9
  have hu := hu.symm
  subst hu
  refine x_putl (ci := 7) (k := 75) hx hb ht in_M t_M t_M_ok n_M hown hw (by decide) o_M rfl 18 (2) (by decide) (ht _ w_504) rfl (by decide +kernel) (Nat.le_of_ble_eq_true rfl) rfl rfl d_M_findSplit_14 (fun H locs hw => ?_)
  refine lv_iconst (v := 0) hx hb d_M_findSplit_17 (by decide) ?_
  refine lv_istore_n (lv' := [(3, .int 0), (0, .ref (ad 75)), (1, .int x), (2, .int y)]) hx hb d_M_findSplit_18 rfl hl (by decide) rfl (fun ls hl => ?_)
  have L19 : ∀ (n19 : Nat) (f : Nat) (a : St), f ≤ 5 → fMF u x y k f = a → a.2.2.1 12 = nI k → 5 - f < n19 → ∀ (H : Heap) (locs : List Loc), XH D g ad (AX ad sz) s s.heap H locs a → ∀ ls : Array Slot, lv_has ls 8 [(3, .int (nI f)), (0, .ref (ad 75)), (1, .int x), (2, .int y)] → W p l e (rmN 2 50) s m ([.ref (ad 75), .int x, .int y] : List Value).toArray below meth c H locs 0 0 (MQ below (va_Qv (fun w => w = fMF u x y k 5) (XB D g ad sz) (AX ad sz)) ([.ref (ad 75), .int x, .int y] : List Value).toArray s 0 0 (AX ad sz)) (F0 m 19 ls []) := by
    intro n19
    induction n19 with
    | zero => intro f a h1 hv ha3 hz; exact absurd hz (by omega)
    | succ n19 ih19 =>
      intro f a h1 hv ha3 hnL19 H locs hw ls hl
      refine lv_iload_n hx hb d_M_findSplit_19 rfl (lv_at hl 0 rfl) ?_
      refine lv_iconst (v := 5) hx hb d_M_findSplit_20 (by decide) ?_
      refine lv_icmp_ge (tgt := 183) hx hb d_M_findSplit_21 (by decide) (fun c21 => ?_) (fun c21 => ?_)
      · have h21 : (5) ≤ (f) := (nI_leI (a := 5) (b := f) (by omega) (by omega)).mp c21
        exact x_vret hsz hx hb hr hlk hw (by rw [← hv, show f = 5 by omega]) d_M_findSplit_183
      · have h21 : ¬ (5) ≤ (f) := fun hz9 => c21 ((nI_leI (a := 5) (b := f) (by omega) (by omega)).mpr hz9)
        refine lv_iconst (v := 0) hx hb d_M_findSplit_24 (by decide) ?_
        refine lv_istore (lv' := [(4, .int 0), (3, .int (nI f)), (0, .ref (ad 75)), (1, .int x), (2, .int y)]) hx hb d_M_findSplit_25 hl (by decide) rfl (fun ls hl => ?_)
        have L27 : ∀ (n27 : Nat) (t : Nat) (b : St), t ≤ 200 → tMF a x y f k t = b → b.2.2.1 12 = nI k → 200 - t < n27 → ∀ (H : Heap) (locs : List Loc), XH D g ad (AX ad sz) s s.heap H locs b → ∀ ls : Array Slot, lv_has ls 8 [(4, .int (nI t)), (3, .int (nI f)), (0, .ref (ad 75)), (1, .int x), (2, .int y)] → W p l e (rmN 2 50) s m ([.ref (ad 75), .int x, .int y] : List Value).toArray below meth c H locs 0 0 (MQ below (va_Qv (fun w => w = fMF u x y k 5) (XB D g ad sz) (AX ad sz)) ([.ref (ad 75), .int x, .int y] : List Value).toArray s 0 0 (AX ad sz)) (F0 m 27 ls []) := by
          intro n27
          induction n27 with
          | zero => intro t b ht9 hv2 hb3 hz; exact absurd hz (by omega)
          | succ n27 ih27 =>
            intro t b ht9 hv2 hb3 hnL27 H locs hw ls hl
            refine lv_iload hx hb d_M_findSplit_27 (lv_at hl 0 rfl) ?_
            refine lv_sipush (v := 200) hx hb d_M_findSplit_29 (by decide) ?_
            refine lv_icmp_ge (tgt := 177) hx hb d_M_findSplit_32 (by decide) (fun c32 => ?_) (fun c32 => ?_)
            · have h32 : (200) ≤ (t) := (nI_leI (a := 200) (b := t) (by omega) (by omega)).mp c32
              refine lv_iinc (v := (nI (f + 1))) (lv' := [(3, .int (nI (f + 1))), (4, .int (nI t)), (0, .ref (ad 75)), (1, .int x), (2, .int y)]) hx hb d_M_findSplit_177 hl (k := 1) rfl (nI_1 _) (by decide) rfl (fun ls hl => ?_)
              refine lv_goto (tgt := 19) hx hb d_M_findSplit_180 (by decide) ?_
              exact ih19 (f + 1) (b) (by omega) (by rw [← hv] at hv2; rw [show t = 200 by omega] at hv2; exact hv2) (hb3) (by omega) _ _ hw ls (lv_sub hl [0, 2, 3, 4] rfl)
            · have h32 : ¬ (200) ≤ (t) := fun hz9 => c32 ((nI_leI (a := 200) (b := t) (by omega) (by omega)).mpr hz9)
              refine lv_iconst (v := 0) hx hb d_M_findSplit_35 (by decide) ?_
              refine lv_istore (lv' := [(5, .int 0), (4, .int (nI t)), (3, .int (nI f)), (0, .ref (ad 75)), (1, .int x), (2, .int y)]) hx hb d_M_findSplit_36 hl (by decide) rfl (fun ls hl => ?_)
              refine lv_iconst (v := 0) hx hb d_M_findSplit_38 (by decide) ?_
              refine lv_istore (lv' := [(6, .int 0), (5, .int 0), (4, .int (nI t)), (3, .int (nI f)), (0, .ref (ad 75)), (1, .int x), (2, .int y)]) hx hb d_M_findSplit_39 hl (by decide) rfl (fun ls hl => ?_)
              have L41 : ∀ (n41 : Nat) (i : Nat), i ≤ k → k - i < n41 → ∀ (H : Heap) (locs : List Loc), XH D g ad (AX ad sz) s s.heap H locs b → ∀ ls : Array Slot, lv_has ls 8 [(6, .int (nI i)), (5, .int (amF b x f (nI t) i)), (4, .int (nI t)), (3, .int (nI f)), (0, .ref (ad 75)), (1, .int x), (2, .int y)] → W p l e (rmN 2 50) s m ([.ref (ad 75), .int x, .int y] : List Value).toArray below meth c H locs 0 0 (MQ below (va_Qv (fun w => w = fMF u x y k 5) (XB D g ad sz) (AX ad sz)) ([.ref (ad 75), .int x, .int y] : List Value).toArray s 0 0 (AX ad sz)) (F0 m 41 ls []) := by
                intro n41
                induction n41 with
                | zero => intro i hi hz; exact absurd hz (by omega)
                | succ n41 ih41 =>
                  intro i hi hnL41 H locs hw ls hl
                  refine lv_iload hx hb d_M_findSplit_41 (lv_at hl 0 rfl) ?_
                  refine lv_aload_n hx hb d_M_findSplit_43 rfl (lv_at hl 4 rfl) ?_
                  refine x_get (ci := 7) (k := 75) hx hb ht in_M hown hw (by decide) o_M rfl 14 (by decide) (ht _ w_500) rfl d_M_findSplit_44 ?_
                  rw [show (b.2.2.1 12) = (nI k) from hb3]
                  refine lv_icmp_ge (tgt := 86) hx hb d_M_findSplit_47 (by decide) (fun c47 => ?_) (fun c47 => ?_)
                  · have h47 : (k) ≤ (i) := (nI_leI (a := k) (b := i) (by omega) (by omega)).mp c47
                    refine lv_iload hx hb d_M_findSplit_86 (lv_at hl 1 rfl) ?_
                    refine lv_if_eq (tgt := 171) hx hb d_M_findSplit_88 (by decide) (fun c88 => ?_) (fun c88 => ?_)
                    · refine lv_iinc (v := (nI (t + 1))) (lv' := [(4, .int (nI (t + 1))), (6, .int (nI i)), (5, .int (amF b x f (nI t) i)), (3, .int (nI f)), (0, .ref (ad 75)), (1, .int x), (2, .int y)]) hx hb d_M_findSplit_171 hl (k := 2) rfl (nI_1 _) (by decide) rfl (fun ls hl => ?_)
                      refine lv_goto (tgt := 27) hx hb d_M_findSplit_174 (by decide) ?_
                      exact ih27 (t + 1) (b) (by omega) (by simp only [tMF]; rw [hv2]; have hik : i = k := (by omega); rw [hik] at c88; simp [stM, c21, c32, c47, c88]) (hb3) (by omega) _ _ hw ls (lv_sub hl [0, 3, 4, 5, 6] rfl)
                    · refine lv_aload_n hx hb d_M_findSplit_91 rfl (lv_at hl 4 rfl) ?_
                      refine lv_iload_n hx hb d_M_findSplit_92 rfl (lv_at hl 5 rfl) ?_
                      refine lv_iload_n hx hb d_M_findSplit_93 rfl (lv_at hl 3 rfl) ?_
                      refine lv_iload hx hb d_M_findSplit_94 (lv_at hl 2 rfl) ?_
                      refine lv_iconst (v := 0) hx hb d_M_findSplit_96 (by decide) ?_
                      refine x_ci (x_runV (na := 4) (k := 75) (As := [.int x, .int (nI f), .int (nI t), .int 0]) (rest := []) (ci := 7) ⟨hx, hb, hml, hown, ht⟩ (m_M_size (u := b) x f (nI t) 0 k (by omega) hk16 hb3 _) w_613 w_615 s_20 w_9 w_616 (by decide +kernel) ⟨rfl, rfl, by decide, by decide⟩ hw (by decide) o_M rfl rfl hl.1 rfl (Nat.le_of_ble_eq_true rfl) d_M_findSplit_97 ⟨Nat.zero_le _, Nat.zero_le _⟩) hw hA (fun v97 u97 H locs hp hw => ?_)
                      obtain ⟨hv9, hu⟩ := hp
                      subst hv9
                      have hu := hu.symm
                      subst hu
                      refine lv_iload_n hx hb d_M_findSplit_100 rfl (lv_at hl 6 rfl) ?_
                      refine lv_icmp_lt (tgt := 171) hx hb d_M_findSplit_101 (by decide) (fun c101 => ?_) (fun c101 => ?_)
                      · refine lv_iinc (v := (nI (t + 1))) (lv' := [(4, .int (nI (t + 1))), (6, .int (nI i)), (5, .int (amF b x f (nI t) i)), (3, .int (nI f)), (0, .ref (ad 75)), (1, .int x), (2, .int y)]) hx hb d_M_findSplit_171 hl (k := 2) rfl (nI_1 _) (by decide) rfl (fun ls hl => ?_)
                        refine lv_goto (tgt := 27) hx hb d_M_findSplit_174 (by decide) ?_
                        exact ih27 (t + 1) (b) (by omega) (by simp only [tMF]; rw [hv2]; have hik : i = k := (by omega); rw [hik] at c88; simp [stM, c21, c32, c47, c88, c101]) (hb3) (by omega) _ _ hw ls (lv_sub hl [0, 3, 4, 5, 6] rfl)
                      · refine lv_aload_n hx hb d_M_findSplit_104 rfl (lv_at hl 4 rfl) ?_
                        refine lv_iload_n hx hb d_M_findSplit_105 rfl (lv_at hl 5 rfl) ?_
                        refine lv_iload_n hx hb d_M_findSplit_106 rfl (lv_at hl 3 rfl) ?_
                        refine lv_iload hx hb d_M_findSplit_107 (lv_at hl 2 rfl) ?_
                        refine lv_iconst (v := 1) hx hb d_M_findSplit_109 (by decide) ?_
                        refine x_ci (x_runV (na := 4) (k := 75) (As := [.int x, .int (nI f), .int (nI t), .int 1]) (rest := []) (ci := 7) ⟨hx, hb, hml, hown, ht⟩ (m_M_size (u := b) x f (nI t) 1 k (by omega) hk16 hb3 _) w_613 w_615 s_20 w_9 w_616 (by decide +kernel) ⟨rfl, rfl, by decide, by decide⟩ hw (by decide) o_M rfl rfl hl.1 rfl (Nat.le_of_ble_eq_true rfl) d_M_findSplit_110 ⟨Nat.zero_le _, Nat.zero_le _⟩) hw hA (fun v110 u110 H locs hp hw => ?_)
                        obtain ⟨hv9, hu⟩ := hp
                        subst hv9
                        have hu := hu.symm
                        subst hu
                        refine lv_iload_n hx hb d_M_findSplit_113 rfl (lv_at hl 6 rfl) ?_
                        refine lv_icmp_ge (tgt := 120) hx hb d_M_findSplit_114 (by decide) (fun c114 => ?_) (fun c114 => ?_)
                        · refine lv_aload_n hx hb d_M_findSplit_120 rfl (lv_at hl 4 rfl) ?_
                          refine lv_iload_n hx hb d_M_findSplit_121 rfl (lv_at hl 5 rfl) ?_
                          refine lv_iload_n hx hb d_M_findSplit_122 rfl (lv_at hl 3 rfl) ?_
                          refine lv_iload hx hb d_M_findSplit_123 (lv_at hl 2 rfl) ?_
                          refine lv_iconst (v := 0) hx hb d_M_findSplit_125 (by decide) ?_
                          refine x_cl (x_runV (na := 4) (k := 75) (As := [.int x, .int (nI f), .int (nI t), .int 0]) (rest := []) (ci := 7) ⟨hx, hb, hml, hown, ht⟩ (m_M_part (u := b) x f (nI t) 0 k (by omega) hk16 hb3 _) w_606 w_608 s_19 w_9 w_609 (by decide +kernel) ⟨rfl, rfl, by decide, by decide⟩ hw (by decide) o_M rfl rfl hl.1 rfl (Nat.le_of_ble_eq_true rfl) d_M_findSplit_126 ⟨Nat.zero_le _, Nat.zero_le _⟩) hw hA (fun v126 u126 H locs hp hw => ?_)
                          obtain ⟨hv9, hu⟩ := hp
                          subst hv9
                          have hu := hu.symm
                          subst hu
                          refine lv_aload_n hx hb d_M_findSplit_129 rfl (lv_at hl 4 rfl) ?_
                          refine lv_iload_n hx hb d_M_findSplit_130 rfl (lv_at hl 5 rfl) ?_
                          refine lv_iload_n hx hb d_M_findSplit_131 rfl (lv_at hl 3 rfl) ?_
                          refine lv_iload hx hb d_M_findSplit_132 (lv_at hl 2 rfl) ?_
                          refine lv_iconst (v := 1) hx hb d_M_findSplit_134 (by decide) ?_
                          refine x_cl (x_runV (na := 4) (k := 75) (As := [.int x, .int (nI f), .int (nI t), .int 1]) (rest := [.long (partF b x f (nI t) 0 k)]) (ci := 7) ⟨hx, hb, hml, hown, ht⟩ (m_M_part (u := b) x f (nI t) 1 k (by omega) hk16 hb3 _) w_606 w_608 s_19 w_9 w_609 (by decide +kernel) ⟨rfl, rfl, by decide, by decide⟩ hw (by decide) o_M rfl rfl hl.1 rfl (Nat.le_of_ble_eq_true rfl) d_M_findSplit_135 ⟨Nat.zero_le _, Nat.zero_le _⟩) hw hA (fun v135 u135 H locs hp hw => ?_)
                          obtain ⟨hv9, hu⟩ := hp
                          subst hv9
                          have hu := hu.symm
                          subst hu
                          refine lv_ladd hx hb d_M_findSplit_138 ?_
                          refine lv_lstore (lv' := [(6, .long ((partF b x f (nI t) 0 k) + (partF b x f (nI t) 1 k))), (5, .int (amF b x f (nI t) i)), (4, .int (nI t)), (3, .int (nI f)), (0, .ref (ad 75)), (1, .int x), (2, .int y)]) hx hb d_M_findSplit_139 hl (by decide) rfl (fun ls hl => ?_)
                          refine lv_lload hx hb d_M_findSplit_141 (lv_at hl 0 rfl) ?_
                          refine lv_aload_n hx hb d_M_findSplit_143 rfl (lv_at hl 4 rfl) ?_
                          refine x_get (ci := 7) (k := 75) hx hb ht in_M hown hw (by decide) o_M rfl 18 (by decide) (ht _ w_504) rfl d_M_findSplit_144 ?_
                          refine W.lcmp hx hb d_M_findSplit_147 ?_
                          refine lv_if_gt (tgt := 154) hx hb d_M_findSplit_148 (by decide) (fun c148 => ?_) (fun c148 => ?_)
                          · refine lv_aload_n hx hb d_M_findSplit_154 rfl (lv_at hl 4 rfl) ?_
                            refine lv_lload hx hb d_M_findSplit_155 (lv_at hl 0 rfl) ?_
                            refine x_putl (ci := 7) (k := 75) hx hb ht in_M t_M t_M_ok n_M hown hw (by decide) o_M rfl 18 (2) (by decide) (ht _ w_504) rfl (by decide +kernel) (Nat.le_of_ble_eq_true rfl) rfl rfl d_M_findSplit_157 (fun H locs hw => ?_)
                            refine lv_aload_n hx hb d_M_findSplit_160 rfl (lv_at hl 4 rfl) ?_
                            refine lv_iload_n hx hb d_M_findSplit_161 rfl (lv_at hl 3 rfl) ?_
                            refine x_puti (ci := 7) (k := 75) hx hb ht in_M t_M t_M_ok n_M hown hw (by decide) o_M rfl 19 (14) (by decide) (ht _ w_505) rfl (by decide +kernel) (Nat.le_of_ble_eq_true rfl) rfl rfl d_M_findSplit_162 (fun H locs hw => ?_)
                            refine lv_aload_n hx hb d_M_findSplit_165 rfl (lv_at hl 4 rfl) ?_
                            refine lv_iload hx hb d_M_findSplit_166 (lv_at hl 2 rfl) ?_
                            refine x_puti (ci := 7) (k := 75) hx hb ht in_M t_M t_M_ok n_M hown hw (by decide) o_M rfl 20 (15) (by decide) (ht _ w_506) rfl (by decide +kernel) (Nat.le_of_ble_eq_true rfl) rfl rfl d_M_findSplit_168 (fun H locs hw => ?_)
                            refine lv_iinc (v := (nI (t + 1))) (lv' := [(4, .int (nI (t + 1))), (6, .long ((partF b x f (nI t) 0 k) + (partF b x f (nI t) 1 k))), (5, .int (amF b x f (nI t) i)), (3, .int (nI f)), (0, .ref (ad 75)), (1, .int x), (2, .int y)]) hx hb d_M_findSplit_171 hl (k := 2) rfl (nI_1 _) (by decide) rfl (fun ls hl => ?_)
                            refine lv_goto (tgt := 27) hx hb d_M_findSplit_174 (by decide) ?_
                            exact ih27 (t + 1) ((sF (sF (sG b 2 ((partF b x f (nI t) 0 k) + (partF b x f (nI t) 1 k))) 14 (nI f)) 15 (nI t))) (by omega) (by simp only [tMF]; rw [hv2]; have hik : i = k := (by omega); rw [hik] at c88; simp [stM, c21, c32, c47, c88, c101, c114, c148]) (hb3) (by omega) _ _ hw ls (lv_sub hl [0, 3, 4, 5, 6] rfl)
                          · refine lv_goto (tgt := 171) hx hb d_M_findSplit_151 (by decide) ?_
                            refine lv_iinc (v := (nI (t + 1))) (lv' := [(4, .int (nI (t + 1))), (6, .long ((partF b x f (nI t) 0 k) + (partF b x f (nI t) 1 k))), (5, .int (amF b x f (nI t) i)), (3, .int (nI f)), (0, .ref (ad 75)), (1, .int x), (2, .int y)]) hx hb d_M_findSplit_171 hl (k := 2) rfl (nI_1 _) (by decide) rfl (fun ls hl => ?_)
                            refine lv_goto (tgt := 27) hx hb d_M_findSplit_174 (by decide) ?_
                            exact ih27 (t + 1) (b) (by omega) (by simp only [tMF]; rw [hv2]; have hik : i = k := (by omega); rw [hik] at c88; simp [stM, c21, c32, c47, c88, c101, c114, c148]) (hb3) (by omega) _ _ hw ls (lv_sub hl [0, 3, 4, 5, 6] rfl)
                        · refine lv_goto (tgt := 171) hx hb d_M_findSplit_117 (by decide) ?_
                          refine lv_iinc (v := (nI (t + 1))) (lv' := [(4, .int (nI (t + 1))), (6, .int (nI i)), (5, .int (amF b x f (nI t) i)), (3, .int (nI f)), (0, .ref (ad 75)), (1, .int x), (2, .int y)]) hx hb d_M_findSplit_171 hl (k := 2) rfl (nI_1 _) (by decide) rfl (fun ls hl => ?_)
                          refine lv_goto (tgt := 27) hx hb d_M_findSplit_174 (by decide) ?_
                          exact ih27 (t + 1) (b) (by omega) (by simp only [tMF]; rw [hv2]; have hik : i = k := (by omega); rw [hik] at c88; simp [stM, c21, c32, c47, c88, c101, c114]) (hb3) (by omega) _ _ hw ls (lv_sub hl [0, 3, 4, 5, 6] rfl)
                  · have h47 : ¬ (k) ≤ (i) := fun hz9 => c47 ((nI_leI (a := k) (b := i) (by omega) (by omega)).mpr hz9)
                    refine lv_aload_n hx hb d_M_findSplit_50 rfl (lv_at hl 4 rfl) ?_
                    refine x_get (ci := 7) (k := 75) hx hb ht in_M hown hw (by decide) o_M rfl 12 (by decide) (ht _ w_498) rfl d_M_findSplit_51 ?_
                    refine lv_iload hx hb d_M_findSplit_54 (lv_at hl 0 rfl) ?_
                    refine x_iald (k := 86) hx hb hw (by decide) rfl (vin (N := 16) (by omega) rfl (by omega)) d_M_findSplit_56 ?_
                    rw [nI_clamp (n := i) (by omega)]
                    refine lv_iload_n hx hb d_M_findSplit_57 rfl (lv_at hl 5 rfl) ?_
                    refine lv_icmp_ne (tgt := 80) hx hb d_M_findSplit_58 (by decide) (fun c58 => ?_) (fun c58 => ?_)
                    · refine lv_iinc (v := (nI (i + 1))) (lv' := [(6, .int (nI (i + 1))), (5, .int (amF b x f (nI t) i)), (4, .int (nI t)), (3, .int (nI f)), (0, .ref (ad 75)), (1, .int x), (2, .int y)]) hx hb d_M_findSplit_80 hl (k := 0) rfl (nI_1 _) (by decide) rfl (fun ls hl => ?_)
                      refine lv_goto (tgt := 41) hx hb d_M_findSplit_83 (by decide) ?_
                      exact ih41 (i + 1) (by omega) (by omega) _ _ hw ls (by rw [← (show (amF b x f (nI t) i) = (amF b x f (nI t) (i + 1)) from (by simp [amF, c21, c32, c47, c58]))]; exact lv_sub hl [0, 1, 2, 3, 4, 5, 6] rfl)
                    · refine lv_aload_n hx hb d_M_findSplit_61 rfl (lv_at hl 4 rfl) ?_
                      refine x_get (ci := 7) (k := 75) hx hb ht in_M hown hw (by decide) o_M rfl 11 (by decide) (ht _ w_497) rfl d_M_findSplit_62 ?_
                      refine lv_iload hx hb d_M_findSplit_65 (lv_at hl 0 rfl) ?_
                      refine lv_iconst (v := 5) hx hb d_M_findSplit_67 (by decide) ?_
                      refine lv_imul hx hb d_M_findSplit_68 ?_
                      rw [show ((nI i) * 5) = (nI (i * 5)) from pk_mul _ _]
                      refine lv_iload_n hx hb d_M_findSplit_69 rfl (lv_at hl 3 rfl) ?_
                      refine lv_iadd hx hb d_M_findSplit_70 ?_
                      rw [show ((nI (i * 5)) + (nI f)) = (nI (i * 5 + f)) from nI_add _ _]
                      refine x_iald (k := 85) hx hb hw (by decide) rfl (vin (N := 80) (by omega) rfl (by omega)) d_M_findSplit_71 ?_
                      rw [nI_clamp (n := i * 5 + f) (by omega)]
                      refine lv_iload hx hb d_M_findSplit_72 (lv_at hl 2 rfl) ?_
                      refine lv_icmp_ne (tgt := 80) hx hb d_M_findSplit_74 (by decide) (fun c74 => ?_) (fun c74 => ?_)
                      · refine lv_iinc (v := (nI (i + 1))) (lv' := [(6, .int (nI (i + 1))), (5, .int (amF b x f (nI t) i)), (4, .int (nI t)), (3, .int (nI f)), (0, .ref (ad 75)), (1, .int x), (2, .int y)]) hx hb d_M_findSplit_80 hl (k := 0) rfl (nI_1 _) (by decide) rfl (fun ls hl => ?_)
                        refine lv_goto (tgt := 41) hx hb d_M_findSplit_83 (by decide) ?_
                        exact ih41 (i + 1) (by omega) (by omega) _ _ hw ls (by rw [← (show (amF b x f (nI t) i) = (amF b x f (nI t) (i + 1)) from (by simp [amF, c21, c32, c47, c58, c74]))]; exact lv_sub hl [0, 1, 2, 3, 4, 5, 6] rfl)
                      · refine lv_iconst (v := 1) hx hb d_M_findSplit_77 (by decide) ?_
                        refine lv_istore (lv' := [(5, .int 1), (6, .int (nI i)), (4, .int (nI t)), (3, .int (nI f)), (0, .ref (ad 75)), (1, .int x), (2, .int y)]) hx hb d_M_findSplit_78 hl (by decide) rfl (fun ls hl => ?_)
                        refine lv_iinc (v := (nI (i + 1))) (lv' := [(6, .int (nI (i + 1))), (5, .int 1), (4, .int (nI t)), (3, .int (nI f)), (0, .ref (ad 75)), (1, .int x), (2, .int y)]) hx hb d_M_findSplit_80 hl (k := 1) rfl (nI_1 _) (by decide) rfl (fun ls hl => ?_)
                        refine lv_goto (tgt := 41) hx hb d_M_findSplit_83 (by decide) ?_
                        exact ih41 (i + 1) (by omega) (by omega) _ _ hw ls (by rw [← (show 1 = (amF b x f (nI t) (i + 1)) from (by simp [amF, c21, c32, c47, c58, c74]))]; exact lv_sub hl [0, 1, 2, 3, 4, 5, 6] rfl)
              exact L41 ((k - 0) + 1) (0) (by omega) (by omega) _ _ hw ls (lv_sub hl [0, 1, 2, 3, 4, 5, 6] rfl)
        exact L27 ((200 - 0) + 1) (0) (a) (by omega) (rfl) (ha3) (by omega) _ _ hw ls (lv_sub hl [0, 1, 2, 3, 4] rfl)
  exact L19 ((5 - 0) + 1) (0) ((sG (sF u 14 (-1)) 2 (partF (sF u 14 (-1)) x 0 0 2 k))) (by omega) (rfl) (hns) (by omega) _ _ hw ls (lv_sub hl [0, 1, 2, 3] rfl))
