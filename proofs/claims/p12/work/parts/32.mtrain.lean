theorem le_nlt {a b : Int32} (h : ¬ b < a) : a ≤ b := by
  rw [Int32.le_iff_toInt_le]
  rw [Int32.lt_iff_toInt_lt] at h
  omega
def lvN (u : St) : Nat → Nat
  | 0 => 0
  | j + 1 => if u.1 80 j < 0 then lvN u j else if u.1 76 (j % 16) = 0 then lvN u j else lvN u j + 1
theorem lvN_mono {u : St} {a : Nat} : ∀ b, lvN u a ≤ lvN u (a + b) := by
  intro b
  induction b with
  | zero => exact Nat.le_refl _
  | succ b ih =>
    show lvN u a ≤ lvN u (a + b + 1)
    simp only [lvN]
    split
    · exact ih
    · split
      · exact ih
      · omega
theorem lvN_lt {u : St} {j : Nat} (hle : lvN u 128 ≤ 16) (hj : j < 128) (h1 : ¬ u.1 80 j < 0) (h2 : ¬ u.1 76 (j % 16) = 0) : lvN u j < 16 := by
  have e : lvN u (j + 1) = lvN u j + 1 := by
    show (if _ then _ else _) = _
    rw [if_neg h1, if_neg h2]
  have h := lvN_mono (u := u) (a := j + 1) (127 - j)
  rw [show j + 1 + (127 - j) = 128 by omega, e] at h
  generalize lvN u 128 = z at h hle
  omega
def sxF (u w : St) (j k : Nat) : Nat → St
  | 0 => w
  | f + 1 => sI (sxF u w j k f) 85 (k * 5 + f) (ftM u (j / 16) (j % 16) (nI f))
def trM (u : St) : Nat → St
  | 0 => sF u 12 0
  | j + 1 => if u.1 80 j < 0 then trM u j else if u.1 76 (j % 16) = 0 then trM u j else sF (sL (sxF u (trM u j) j (lvN u j) 5) 87 (lvN u j) ((u.1 80 j).toInt64 * 65536)) 12 (nI (lvN u j + 1))
def gtF (b : St) (z y : Int32) (k : Nat) : Nat → St
  | 0 => b
  | t + 1 => growM (gtF b z y k t) t z y k
def trNN (u : St) (a : Nat) : Nat := if lvN u 128 = 0 then 0 else a
def trST (u : St) (a : Nat) (z y : Int32) : St := gtF (sF (trM u 128) 11 (nI (trNN u a))) z y (lvN u 128) (trNN u a)
def trainM (u : St) (x z y : Int32) : Int32 × St := if x < 0 then (-1, u) else if 4 < x then (-1, u) else if z < 0 then (-1, u) else if 2 < z then (-1, u) else if y < 1 then (-1, u) else if y ≤ 8 then (eqcF ((trST u x.toNatClampNeg z y).1 81) 1 (trNN u x.toNatClampNeg * 7), trST u x.toNatClampNeg z y) else (-1, u)
theorem stM_F {b : St} {x y : Int32} {f k t c : Nat} (h : c ≠ 14 ∧ c ≠ 15) : (stM b x y f k t).2.2.1 c = b.2.2.1 c := by
  unfold stM
  repeat' split
  all_goals first | rfl | (show upd (upd _ 14 _) 15 _ c = _; unfold upd; rw [if_neg h.2, if_neg h.1]; rfl)
theorem tMF_F {a : St} {x y : Int32} {f k c : Nat} (h : c ≠ 14 ∧ c ≠ 15) : ∀ t, (tMF a x y f k t).2.2.1 c = a.2.2.1 c := by
  intro t
  induction t with
  | zero => rfl
  | succ t ih => simp only [tMF]; rw [stM_F h, ih]
theorem fMF_F {u : St} {x y : Int32} {k c : Nat} (h : c ≠ 14 ∧ c ≠ 15) : ∀ {f : Nat}, (fMF u x y k f).2.2.1 c = u.2.2.1 c := by
  intro f
  induction f with
  | zero => show upd _ 14 _ c = _; unfold upd; rw [if_neg h.1]
  | succ f ih => simp only [fMF]; rw [tMF_F h, ih]
theorem selS_F {u : St} {n k c : Nat} {x y : Int32} (h : c ≠ 14 ∧ c ≠ 15) : (selS u n x y k).2.2.1 c = u.2.2.1 c := by
  unfold selS
  split
  · show upd _ 14 _ c = _; unfold upd; rw [if_neg h.1]
  · rw [fMF_F h]; show upd _ 14 _ c = _; unfold upd; rw [if_neg h.1]
theorem gwF_F {u : St} {t k c : Nat} {x y : Int32} (h : c ≠ 14 ∧ c ≠ 15) : ∀ n, (gwF u t x y k n).2.2.1 c = u.2.2.1 c := by
  intro n
  induction n with
  | zero => rfl
  | succ n ih =>
    simp only [gwF]
    split
    · rw [gnF_2, selS_F h]; exact ih
    · exact ih
theorem lsM_keep {w : St} {t : Nat} : ∀ i, (lsM w t i).1 = w.1 ∧ (lsM w t i).2.2 = w.2.2 := by
  intro i
  induction i with
  | zero => exact ⟨rfl, rfl⟩
  | succ i ih => exact ih
theorem growM_F {u : St} {t k c : Nat} {x y : Int32} (h : c ≠ 14 ∧ c ≠ 15) : (growM u t x y k).2.2.1 c = u.2.2.1 c := by
  unfold growM
  rw [(lsM_keep k).2, gwF_F h]
set_option maxHeartbeats 4000000 in
set_option maxRecDepth 100000 in
theorem m_M_train {l : Launch} {D : va_G} {g : Ids} {ad : Nat → Nat} {u : St} (x : Int32) (z : Int32) (y : Int32) (hle : lvN u 128 ≤ 16) : XMi l D g ad y_M_train b_M_train 6 ((some .int)) (rmN 5 132) [.ref (ad 75), .int x, .int z, .int y] u (fun v r => (v, r) = trainM u x z y) := fun sz => x_met (by decide) (Nat.le_of_ble_eq_true rfl) (fun p e s m below meth c hsz hx hb hr hml hown ht hlk hw ls hl => by
  have hA : ∀ q, s.heap.size ≤ q → AX ad sz q := fun q h => Or.inr (hsz ▸ h)
  have hl : lv_has ls 6 [(0, .ref (ad 75)), (1, .int x), (2, .int z), (3, .int y)] := hl
  refine lv_iload_n hx hb d_M_train_0 rfl (lv_at hl 1 rfl) ?_
  refine lv_if_lt (tgt := 29) hx hb d_M_train_1 (by decide) (fun c1 => ?_) (fun c1 => ?_)
  · refine lv_iconst (v := (-1)) hx hb d_M_train_29 (by decide) ?_
    exact x_iret hsz hx hb hr hlk hw (by simp [trainM, c1]) d_M_train_30
  · refine lv_iload_n hx hb d_M_train_4 rfl (lv_at hl 1 rfl) ?_
    refine lv_iconst (v := 4) hx hb d_M_train_5 (by decide) ?_
    refine lv_icmp_gt (tgt := 29) hx hb d_M_train_6 (by decide) (fun c6 => ?_) (fun c6 => ?_)
    · refine lv_iconst (v := (-1)) hx hb d_M_train_29 (by decide) ?_
      exact x_iret hsz hx hb hr hlk hw (by simp [trainM, c1, c6]) d_M_train_30
    · refine lv_iload_n hx hb d_M_train_9 rfl (lv_at hl 2 rfl) ?_
      refine lv_if_lt (tgt := 29) hx hb d_M_train_10 (by decide) (fun c10 => ?_) (fun c10 => ?_)
      · refine lv_iconst (v := (-1)) hx hb d_M_train_29 (by decide) ?_
        exact x_iret hsz hx hb hr hlk hw (by simp [trainM, c1, c6, c10]) d_M_train_30
      · refine lv_iload_n hx hb d_M_train_13 rfl (lv_at hl 2 rfl) ?_
        refine lv_iconst (v := 2) hx hb d_M_train_14 (by decide) ?_
        refine lv_icmp_gt (tgt := 29) hx hb d_M_train_15 (by decide) (fun c15 => ?_) (fun c15 => ?_)
        · refine lv_iconst (v := (-1)) hx hb d_M_train_29 (by decide) ?_
          exact x_iret hsz hx hb hr hlk hw (by simp [trainM, c1, c6, c10, c15]) d_M_train_30
        · refine lv_iload_n hx hb d_M_train_18 rfl (lv_at hl 3 rfl) ?_
          refine lv_iconst (v := 1) hx hb d_M_train_19 (by decide) ?_
          refine lv_icmp_lt (tgt := 29) hx hb d_M_train_20 (by decide) (fun c20 => ?_) (fun c20 => ?_)
          · refine lv_iconst (v := (-1)) hx hb d_M_train_29 (by decide) ?_
            exact x_iret hsz hx hb hr hlk hw (by simp [trainM, c1, c6, c10, c15, c20]) d_M_train_30
          · refine lv_iload_n hx hb d_M_train_23 rfl (lv_at hl 3 rfl) ?_
            refine lv_bipush (v := 8) hx hb d_M_train_24 (by decide) ?_
            refine lv_icmp_le (tgt := 31) hx hb d_M_train_26 (by decide) (fun c26 => ?_) (fun c26 => ?_)
            · obtain ⟨a, ha5, rfl⟩ : ∃ j : Nat, j < 5 ∧ x = nI j := vp_in_of (within_in (N := 5) (n := 4) (by rw [withinF_t c1 c6]; decide)) (by decide)
              have hz2 : z ≤ 2 := le_nlt c15
              refine lv_aload_n hx hb d_M_train_31 rfl (lv_at hl 0 rfl) ?_
              refine lv_iconst (v := 0) hx hb d_M_train_32 (by decide) ?_
              refine x_puti (ci := 7) (k := 75) hx hb ht in_M t_M t_M_ok n_M hown hw (by decide) o_M rfl 14 (12) (by decide) (ht _ w_500) rfl (by decide +kernel) (Nat.le_of_ble_eq_true rfl) rfl rfl d_M_train_33 (fun H locs hw => ?_)
              refine lv_iconst (v := 0) hx hb d_M_train_36 (by decide) ?_
              refine lv_istore (lv' := [(4, .int 0), (0, .ref (ad 75)), (1, .int (nI a)), (2, .int z), (3, .int y)]) hx hb d_M_train_37 hl (by decide) rfl (fun ls hl => ?_)
              have L39 : ∀ (n39 : Nat) (j : Nat) (w : St), j ≤ 128 → trM u j = w → w.2.2.1 12 = nI (lvN u j) → (∀ k, k ≠ 85 → w.1 k = u.1 k) → 128 - j < n39 → ∀ (H : Heap) (locs : List Loc), XH D g ad (AX ad sz) s s.heap H locs w → ∀ ls : Array Slot, lv_has ls 6 [(4, .int (nI j)), (0, .ref (ad 75)), (1, .int (nI a)), (2, .int z), (3, .int y)] → W p l e (rmN 5 132) s m ([.ref (ad 75), .int (nI a), .int z, .int y] : List Value).toArray below meth c H locs 0 0 (MQ below (va_Qi (fun v r => (v, r) = trainM u (nI a) z y) (XB D g ad sz) (AX ad sz)) ([.ref (ad 75), .int (nI a), .int z, .int y] : List Value).toArray s 0 0 (AX ad sz)) (F0 m 39 ls []) := by
                intro n39
                induction n39 with
                | zero => intro j w h1 hv hk hw0 hz; exact absurd hz (by omega)
                | succ n39 ih39 =>
                  intro j w h1 hv hk hw0 hnL39 H locs hw ls hl
                  refine lv_iload hx hb d_M_train_39 (lv_at hl 0 rfl) ?_
                  refine lv_sipush (v := 128) hx hb d_M_train_41 (by decide) ?_
                  refine lv_icmp_ge (tgt := 155) hx hb d_M_train_44 (by decide) (fun c44 => ?_) (fun c44 => ?_)
                  · have h44 : (128) ≤ (j) := (nI_leI (a := 128) (b := j) (by omega) (by omega)).mp c44
                    obtain rfl : j = 128 := by omega
                    refine lv_aload_n hx hb d_M_train_155 rfl (lv_at hl 1 rfl) ?_
                    refine lv_aload_n hx hb d_M_train_156 rfl (lv_at hl 1 rfl) ?_
                    refine x_get (ci := 7) (k := 75) hx hb ht in_M hown hw (by decide) o_M rfl 14 (by decide) (ht _ w_500) rfl d_M_train_157 ?_
                    rw [show (w.2.2.1 12) = (nI (lvN u 128)) from hk]
                    refine lv_if_ne (tgt := 167) hx hb d_M_train_160 (by decide) (fun c160 => ?_) (fun c160 => ?_)
                    · have h160 : ¬ (lvN u 128) = (0) := fun hz9 => c160 ((nI_eq (a := lvN u 128) (b := 0) (by omega) (by omega)).mpr hz9)
                      refine lv_iload_n hx hb d_M_train_167 rfl (lv_at hl 2 rfl) ?_
                      refine x_puti (ci := 7) (k := 75) hx hb ht in_M t_M t_M_ok n_M hown hw (by decide) o_M rfl 10 (11) (by decide) (ht _ w_496) rfl (by decide +kernel) (Nat.le_of_ble_eq_true rfl) rfl rfl d_M_train_168 (fun H locs hw => ?_)
                      refine lv_iconst (v := 0) hx hb d_M_train_171 (by decide) ?_
                      refine lv_istore (lv' := [(4, .int 0), (0, .ref (ad 75)), (1, .int (nI a)), (2, .int z), (3, .int y)]) hx hb d_M_train_172 hl (by decide) rfl (fun ls hl => ?_)
                      have L174 : ∀ (n174 : Nat) (t : Nat) (n : Nat) (b : St), t ≤ n → n ≤ 4 → n = trNN u a → gtF (sF w 11 (nI n)) z y (lvN u 128) t = b → b.2.2.1 11 = nI n → b.2.2.1 12 = nI (lvN u 128) → n - t < n174 → ∀ (H : Heap) (locs : List Loc), XH D g ad (AX ad sz) s s.heap H locs b → ∀ ls : Array Slot, lv_has ls 6 [(4, .int (nI t)), (0, .ref (ad 75)), (1, .int (nI a)), (2, .int z), (3, .int y)] → W p l e (rmN 5 132) s m ([.ref (ad 75), .int (nI a), .int z, .int y] : List Value).toArray below meth c H locs 0 0 (MQ below (va_Qi (fun v r => (v, r) = trainM u (nI a) z y) (XB D g ad sz) (AX ad sz)) ([.ref (ad 75), .int (nI a), .int z, .int y] : List Value).toArray s 0 0 (AX ad sz)) (F0 m 174 ls []) := by
                        intro n174
                        induction n174 with
                        | zero => intro t n b h3 hn4 hn9 hv3 hb11 hb12 hz; exact absurd hz (by omega)
                        | succ n174 ih174 =>
                          intro t n b h3 hn4 hn9 hv3 hb11 hb12 hnL174 H locs hw ls hl
                          refine lv_iload hx hb d_M_train_174 (lv_at hl 0 rfl) ?_
                          refine lv_aload_n hx hb d_M_train_176 rfl (lv_at hl 1 rfl) ?_
                          refine x_get (ci := 7) (k := 75) hx hb ht in_M hown hw (by decide) o_M rfl 10 (by decide) (ht _ w_496) rfl d_M_train_177 ?_
                          rw [show (b.2.2.1 11) = (nI n) from hb11]
                          refine lv_icmp_ge (tgt := 197) hx hb d_M_train_180 (by decide) (fun c180 => ?_) (fun c180 => ?_)
                          · have h180 : (n) ≤ (t) := (nI_leI (a := n) (b := t) (by omega) (by omega)).mp c180
                            refine lv_aload_n hx hb d_M_train_197 rfl (lv_at hl 1 rfl) ?_
                            refine lv_iconst (v := 1) hx hb d_M_train_198 (by decide) ?_
                            refine x_ci (x_runV (na := 1) (k := 75) (As := [.int 1]) (rest := []) (ci := 7) ⟨hx, hb, hml, hown, ht⟩ (m_M_nodes 1 n hn4 hb11 _) w_617 w_619 s_21 w_9 w_620 (by decide +kernel) ⟨rfl, rfl, by decide, by decide⟩ hw (by decide) o_M rfl rfl hl.1 rfl (Nat.le_of_ble_eq_true rfl) d_M_train_199 ⟨Nat.zero_le _, Nat.zero_le _⟩) hw hA (fun v199 u199 H locs hp hw => ?_)
                            obtain ⟨hv9, hu⟩ := hp
                            subst hv9
                            have hu := hu.symm
                            subst hu
                            exact x_iret hsz hx hb hr hlk hw (by have e := nI_clamp (n := a) (by omega); unfold trainM; rw [if_neg c1, if_neg c6, if_neg c10, if_neg c15, if_neg c20, if_pos c26, e]; unfold trST; rw [← hn9, hv]; rw [show t = n by omega] at hv3; rw [hv3]) d_M_train_202
                          · have h180 : ¬ (n) ≤ (t) := fun hz9 => c180 ((nI_leI (a := n) (b := t) (by omega) (by omega)).mpr hz9)
                            refine lv_aload_n hx hb d_M_train_183 rfl (lv_at hl 1 rfl) ?_
                            refine lv_iload hx hb d_M_train_184 (lv_at hl 0 rfl) ?_
                            refine lv_iload_n hx hb d_M_train_186 rfl (lv_at hl 3 rfl) ?_
                            refine lv_iload_n hx hb d_M_train_187 rfl (lv_at hl 4 rfl) ?_
                            refine x_cv (x_runV (na := 3) (k := 75) (As := [.int (nI t), .int z, .int y]) (rest := []) (ci := 7) ⟨hx, hb, hml, hown, ht⟩ (m_M_grow (u := b) t z y (lvN u 128) (by omega) hz2 hle hb12 _) w_594 w_596 s_16 w_9 w_597 (by decide +kernel) ⟨rfl, rfl, by decide, by decide⟩ hw (by decide) o_M rfl rfl hl.1 rfl (Nat.le_of_ble_eq_true rfl) d_M_train_188 ⟨Nat.zero_le _, Nat.zero_le _⟩) hw hA (fun u188 H locs hp hw => ?_)
                            have hu := hp.symm
                            subst hu
                            refine lv_iinc (v := (nI (t + 1))) (lv' := [(4, .int (nI (t + 1))), (0, .ref (ad 75)), (1, .int (nI a)), (2, .int z), (3, .int y)]) hx hb d_M_train_191 hl (k := 0) rfl (nI_1 _) (by decide) rfl (fun ls hl => ?_)
                            refine lv_goto (tgt := 174) hx hb d_M_train_194 (by decide) ?_
                            exact ih174 (t + 1) (n) ((growM b t z y (lvN u 128))) (by omega) (hn4) (hn9) (by rw [← hv3]; rfl) (by rw [growM_F (by decide)]; exact hb11) (by rw [growM_F (by decide)]; exact hb12) (by omega) _ _ hw ls (lv_sub hl [0, 1, 2, 3, 4] rfl)
                      exact L174 ((a - 0) + 1) (0) (a) ((sF w 11 (nI a))) (by omega) (by omega) (by unfold trNN; first | (rw [if_pos h160]; done) | (rw [if_neg h160]; done)) (rfl) (rfl) (hk) (by omega) _ _ hw ls (lv_sub hl [0, 1, 2, 3, 4] rfl)
                    · have h160 : (lvN u 128) = (0) := (nI_eq (a := lvN u 128) (b := 0) (by omega) (by omega)).mp c160
                      refine lv_iconst (v := 0) hx hb d_M_train_163 (by decide) ?_
                      refine lv_goto (tgt := 168) hx hb d_M_train_164 (by decide) ?_
                      refine x_puti (ci := 7) (k := 75) hx hb ht in_M t_M t_M_ok n_M hown hw (by decide) o_M rfl 10 (11) (by decide) (ht _ w_496) rfl (by decide +kernel) (Nat.le_of_ble_eq_true rfl) rfl rfl d_M_train_168 (fun H locs hw => ?_)
                      refine lv_iconst (v := 0) hx hb d_M_train_171 (by decide) ?_
                      refine lv_istore (lv' := [(4, .int 0), (0, .ref (ad 75)), (1, .int (nI a)), (2, .int z), (3, .int y)]) hx hb d_M_train_172 hl (by decide) rfl (fun ls hl => ?_)
                      have L174 : ∀ (n174 : Nat) (t : Nat) (n : Nat) (b : St), t ≤ n → n ≤ 4 → n = trNN u a → gtF (sF w 11 (nI n)) z y (lvN u 128) t = b → b.2.2.1 11 = nI n → b.2.2.1 12 = nI (lvN u 128) → n - t < n174 → ∀ (H : Heap) (locs : List Loc), XH D g ad (AX ad sz) s s.heap H locs b → ∀ ls : Array Slot, lv_has ls 6 [(4, .int (nI t)), (0, .ref (ad 75)), (1, .int (nI a)), (2, .int z), (3, .int y)] → W p l e (rmN 5 132) s m ([.ref (ad 75), .int (nI a), .int z, .int y] : List Value).toArray below meth c H locs 0 0 (MQ below (va_Qi (fun v r => (v, r) = trainM u (nI a) z y) (XB D g ad sz) (AX ad sz)) ([.ref (ad 75), .int (nI a), .int z, .int y] : List Value).toArray s 0 0 (AX ad sz)) (F0 m 174 ls []) := by
                        intro n174
                        induction n174 with
                        | zero => intro t n b h3 hn4 hn9 hv3 hb11 hb12 hz; exact absurd hz (by omega)
                        | succ n174 ih174 =>
                          intro t n b h3 hn4 hn9 hv3 hb11 hb12 hnL174 H locs hw ls hl
                          refine lv_iload hx hb d_M_train_174 (lv_at hl 0 rfl) ?_
                          refine lv_aload_n hx hb d_M_train_176 rfl (lv_at hl 1 rfl) ?_
                          refine x_get (ci := 7) (k := 75) hx hb ht in_M hown hw (by decide) o_M rfl 10 (by decide) (ht _ w_496) rfl d_M_train_177 ?_
                          rw [show (b.2.2.1 11) = (nI n) from hb11]
                          refine lv_icmp_ge (tgt := 197) hx hb d_M_train_180 (by decide) (fun c180 => ?_) (fun c180 => ?_)
                          · have h180 : (n) ≤ (t) := (nI_leI (a := n) (b := t) (by omega) (by omega)).mp c180
                            refine lv_aload_n hx hb d_M_train_197 rfl (lv_at hl 1 rfl) ?_
                            refine lv_iconst (v := 1) hx hb d_M_train_198 (by decide) ?_
                            refine x_ci (x_runV (na := 1) (k := 75) (As := [.int 1]) (rest := []) (ci := 7) ⟨hx, hb, hml, hown, ht⟩ (m_M_nodes 1 n hn4 hb11 _) w_617 w_619 s_21 w_9 w_620 (by decide +kernel) ⟨rfl, rfl, by decide, by decide⟩ hw (by decide) o_M rfl rfl hl.1 rfl (Nat.le_of_ble_eq_true rfl) d_M_train_199 ⟨Nat.zero_le _, Nat.zero_le _⟩) hw hA (fun v199 u199 H locs hp hw => ?_)
                            obtain ⟨hv9, hu⟩ := hp
                            subst hv9
                            have hu := hu.symm
                            subst hu
                            exact x_iret hsz hx hb hr hlk hw (by have e := nI_clamp (n := a) (by omega); unfold trainM; rw [if_neg c1, if_neg c6, if_neg c10, if_neg c15, if_neg c20, if_pos c26, e]; unfold trST; rw [← hn9, hv]; rw [show t = n by omega] at hv3; rw [hv3]) d_M_train_202
                          · have h180 : ¬ (n) ≤ (t) := fun hz9 => c180 ((nI_leI (a := n) (b := t) (by omega) (by omega)).mpr hz9)
                            refine lv_aload_n hx hb d_M_train_183 rfl (lv_at hl 1 rfl) ?_
                            refine lv_iload hx hb d_M_train_184 (lv_at hl 0 rfl) ?_
                            refine lv_iload_n hx hb d_M_train_186 rfl (lv_at hl 3 rfl) ?_
                            refine lv_iload_n hx hb d_M_train_187 rfl (lv_at hl 4 rfl) ?_
                            refine x_cv (x_runV (na := 3) (k := 75) (As := [.int (nI t), .int z, .int y]) (rest := []) (ci := 7) ⟨hx, hb, hml, hown, ht⟩ (m_M_grow (u := b) t z y (lvN u 128) (by omega) hz2 hle hb12 _) w_594 w_596 s_16 w_9 w_597 (by decide +kernel) ⟨rfl, rfl, by decide, by decide⟩ hw (by decide) o_M rfl rfl hl.1 rfl (Nat.le_of_ble_eq_true rfl) d_M_train_188 ⟨Nat.zero_le _, Nat.zero_le _⟩) hw hA (fun u188 H locs hp hw => ?_)
                            have hu := hp.symm
                            subst hu
                            refine lv_iinc (v := (nI (t + 1))) (lv' := [(4, .int (nI (t + 1))), (0, .ref (ad 75)), (1, .int (nI a)), (2, .int z), (3, .int y)]) hx hb d_M_train_191 hl (k := 0) rfl (nI_1 _) (by decide) rfl (fun ls hl => ?_)
                            refine lv_goto (tgt := 174) hx hb d_M_train_194 (by decide) ?_
                            exact ih174 (t + 1) (n) ((growM b t z y (lvN u 128))) (by omega) (hn4) (hn9) (by rw [← hv3]; rfl) (by rw [growM_F (by decide)]; exact hb11) (by rw [growM_F (by decide)]; exact hb12) (by omega) _ _ hw ls (lv_sub hl [0, 1, 2, 3, 4] rfl)
                      exact L174 ((0 - 0) + 1) (0) (0) ((sF w 11 0)) (by omega) (by omega) (by unfold trNN; first | (rw [if_pos h160]; done) | (rw [if_neg h160]; done)) (rfl) (rfl) (hk) (by omega) _ _ hw ls (lv_sub hl [0, 1, 2, 3, 4] rfl)
                  · have h44 : ¬ (128) ≤ (j) := fun hz9 => c44 ((nI_leI (a := 128) (b := j) (by omega) (by omega)).mpr hz9)
                    refine lv_aload_n hx hb d_M_train_47 rfl (lv_at hl 1 rfl) ?_
                    refine x_get (ci := 7) (k := 75) hx hb ht in_M hown hw (by decide) o_M rfl 4 (by decide) (ht _ w_490) rfl d_M_train_48 ?_
                    refine lv_iload hx hb d_M_train_51 (lv_at hl 0 rfl) ?_
                    refine x_iald (k := 80) hx hb hw (by decide) rfl (vin (N := 128) (by omega) rfl (by omega)) d_M_train_53 ?_
                    rw [nI_clamp (n := j) (by omega)]
                    rw [show (w.1 80 j) = (u.1 80 j) from by rw [hw0 80 (by decide)]]
                    refine lv_if_lt (tgt := 149) hx hb d_M_train_54 (by decide) (fun c54 => ?_) (fun c54 => ?_)
                    · refine lv_iinc (v := (nI (j + 1))) (lv' := [(4, .int (nI (j + 1))), (0, .ref (ad 75)), (1, .int (nI a)), (2, .int z), (3, .int y)]) hx hb d_M_train_149 hl (k := 0) rfl (nI_1 _) (by decide) rfl (fun ls hl => ?_)
                      refine lv_goto (tgt := 39) hx hb d_M_train_152 (by decide) ?_
                      exact ih39 (j + 1) (w) (by omega) (by simp only [trM]; rw [hv]; first | (rw [if_pos c54]; done) | (rw [if_neg c54, if_pos c67]; done) | (rw [if_neg c54, if_neg c67, ← hv2, show f = 5 by omega]; done)) (by simp only [lvN]; first | (rw [if_pos c54]; exact hk) | (rw [if_neg c54, if_pos c67]; exact hk) | (rw [if_neg c54, if_neg c67]; rfl)) (by first | exact hw0 | exact hb0) (by omega) _ _ hw ls (lv_sub hl [0, 1, 2, 3, 4] rfl)
                    · refine lv_aload_n hx hb d_M_train_57 rfl (lv_at hl 1 rfl) ?_
                      refine x_get (ci := 7) (k := 75) hx hb ht in_M hown hw (by decide) o_M rfl 0 (by decide) (ht _ w_486) rfl d_M_train_58 ?_
                      refine lv_iload hx hb d_M_train_61 (lv_at hl 0 rfl) ?_
                      refine lv_bipush (v := 16) hx hb d_M_train_63 (by decide) ?_
                      refine lv_irem hx hb d_M_train_65 (by decide) ?_
                      rw [show ((nI j) - (nI j) / 16 * 16) = (nI (j % 16)) from pk_rem (a := j) (d := 16) (by omega) (by decide) (by decide)]
                      refine x_zald (k := 76) hx hb hw (by decide) rfl (vin (N := 16) (by omega) rfl (by omega)) d_M_train_66 ?_
                      rw [nI_clamp (n := j % 16) (by omega)]
                      rw [show (w.1 76 (j % 16)) = (u.1 76 (j % 16)) from by rw [hw0 76 (by decide)]]
                      refine lv_if_ne (tgt := 73) hx hb d_M_train_67 (by decide) (fun c67 => ?_) (fun c67 => ?_)
                      · have hlt : lvN u j < 16 := lvN_lt hle (by omega) c54 c67
                        refine lv_iconst (v := 0) hx hb d_M_train_73 (by decide) ?_
                        refine lv_istore (lv' := [(5, .int 0), (4, .int (nI j)), (0, .ref (ad 75)), (1, .int (nI a)), (2, .int z), (3, .int y)]) hx hb d_M_train_74 hl (by decide) rfl (fun ls hl => ?_)
                        have L76 : ∀ (n76 : Nat) (f : Nat) (b : St), f ≤ 5 → sxF u w j (lvN u j) f = b → b.2 = w.2 → (∀ k, k ≠ 85 → b.1 k = u.1 k) → 5 - f < n76 → ∀ (H : Heap) (locs : List Loc), XH D g ad (AX ad sz) s s.heap H locs b → ∀ ls : Array Slot, lv_has ls 6 [(5, .int (nI f)), (4, .int (nI j)), (0, .ref (ad 75)), (1, .int (nI a)), (2, .int z), (3, .int y)] → W p l e (rmN 5 132) s m ([.ref (ad 75), .int (nI a), .int z, .int y] : List Value).toArray below meth c H locs 0 0 (MQ below (va_Qi (fun v r => (v, r) = trainM u (nI a) z y) (XB D g ad sz) (AX ad sz)) ([.ref (ad 75), .int (nI a), .int z, .int y] : List Value).toArray s 0 0 (AX ad sz)) (F0 m 76 ls []) := by
                          intro n76
                          induction n76 with
                          | zero => intro f b h2 hv2 hb2 hb0 hz; exact absurd hz (by omega)
                          | succ n76 ih76 =>
                            intro f b h2 hv2 hb2 hb0 hnL76 H locs hw ls hl
                            refine lv_iload hx hb d_M_train_76 (lv_at hl 0 rfl) ?_
                            refine lv_iconst (v := 5) hx hb d_M_train_78 (by decide) ?_
                            refine lv_icmp_ge (tgt := 118) hx hb d_M_train_79 (by decide) (fun c79 => ?_) (fun c79 => ?_)
                            · have h79 : (5) ≤ (f) := (nI_leI (a := 5) (b := f) (by omega) (by omega)).mp c79
                              refine lv_aload_n hx hb d_M_train_118 rfl (lv_at hl 2 rfl) ?_
                              refine x_get (ci := 7) (k := 75) hx hb ht in_M hown hw (by decide) o_M rfl 13 (by decide) (ht _ w_499) rfl d_M_train_119 ?_
                              refine lv_aload_n hx hb d_M_train_122 rfl (lv_at hl 2 rfl) ?_
                              refine x_get (ci := 7) (k := 75) hx hb ht in_M hown hw (by decide) o_M rfl 14 (by decide) (ht _ w_500) rfl d_M_train_123 ?_
                              rw [show (b.2.2.1 12) = (nI (lvN u j)) from by rw [hb2]; exact hk]
                              refine lv_aload_n hx hb d_M_train_126 rfl (lv_at hl 2 rfl) ?_
                              refine x_get (ci := 7) (k := 75) hx hb ht in_M hown hw (by decide) o_M rfl 4 (by decide) (ht _ w_490) rfl d_M_train_127 ?_
                              refine lv_iload hx hb d_M_train_130 (lv_at hl 1 rfl) ?_
                              refine x_iald (k := 80) hx hb hw (by decide) rfl (vin (N := 128) (by omega) rfl (by omega)) d_M_train_132 ?_
                              rw [nI_clamp (n := j) (by omega)]
                              rw [show (b.1 80 j) = (u.1 80 j) from by rw [hb0 80 (by decide)]]
                              refine lv_i2l (v := (u.1 80 j).toInt64) hx hb d_M_train_133 rfl ?_
                              refine lv_ldc2 (v := 65536) hx hb hown (ht _ w_593) d_M_train_134 ?_
                              refine lv_lmul hx hb d_M_train_137 ?_
                              refine x_last (k := 87) hx hb hw (by decide) rfl (vin (N := 16) (by omega) rfl (by omega)) d_M_train_138 (fun H locs hw => ?_)
                              rw [nI_clamp (n := lvN u j) (by omega)] at hw
                              refine lv_aload_n hx hb d_M_train_139 rfl (lv_at hl 2 rfl) ?_
                              refine lv_dup hx hb d_M_train_140 rfl ?_
                              refine x_get (ci := 7) (k := 75) hx hb ht in_M hown hw (by decide) o_M rfl 14 (by decide) (ht _ w_500) rfl d_M_train_141 ?_
                              rw [show ((sL b 87 (lvN u j) ((u.1 80 j).toInt64 * 65536)).2.2.1 12) = (nI (lvN u j)) from by show b.2.2.1 12 = _; rw [hb2]; exact hk]
                              refine lv_iconst (v := 1) hx hb d_M_train_144 (by decide) ?_
                              refine lv_iadd hx hb d_M_train_145 ?_
                              rw [show ((nI (lvN u j)) + 1) = (nI (lvN u j + 1)) from nI_add _ _]
                              refine x_puti (ci := 7) (k := 75) hx hb ht in_M t_M t_M_ok n_M hown hw (by decide) o_M rfl 14 (12) (by decide) (ht _ w_500) rfl (by decide +kernel) (Nat.le_of_ble_eq_true rfl) rfl rfl d_M_train_146 (fun H locs hw => ?_)
                              refine lv_iinc (v := (nI (j + 1))) (lv' := [(4, .int (nI (j + 1))), (5, .int (nI f)), (0, .ref (ad 75)), (1, .int (nI a)), (2, .int z), (3, .int y)]) hx hb d_M_train_149 hl (k := 1) rfl (nI_1 _) (by decide) rfl (fun ls hl => ?_)
                              refine lv_goto (tgt := 39) hx hb d_M_train_152 (by decide) ?_
                              exact ih39 (j + 1) ((sF (sL b 87 (lvN u j) ((u.1 80 j).toInt64 * 65536)) 12 (nI (lvN u j + 1)))) (by omega) (by simp only [trM]; rw [hv]; first | (rw [if_pos c54]; done) | (rw [if_neg c54, if_pos c67]; done) | (rw [if_neg c54, if_neg c67, ← hv2, show f = 5 by omega]; done)) (by simp only [lvN]; first | (rw [if_pos c54]; exact hk) | (rw [if_neg c54, if_pos c67]; exact hk) | (rw [if_neg c54, if_neg c67]; rfl)) (by first | exact hw0 | exact hb0) (by omega) _ _ hw ls (lv_sub hl [0, 2, 3, 4, 5] rfl)
                            · have h79 : ¬ (5) ≤ (f) := fun hz9 => c79 ((nI_leI (a := 5) (b := f) (by omega) (by omega)).mpr hz9)
                              refine lv_aload_n hx hb d_M_train_82 rfl (lv_at hl 2 rfl) ?_
                              refine x_get (ci := 7) (k := 75) hx hb ht in_M hown hw (by decide) o_M rfl 11 (by decide) (ht _ w_497) rfl d_M_train_83 ?_
                              refine lv_aload_n hx hb d_M_train_86 rfl (lv_at hl 2 rfl) ?_
                              refine x_get (ci := 7) (k := 75) hx hb ht in_M hown hw (by decide) o_M rfl 14 (by decide) (ht _ w_500) rfl d_M_train_87 ?_
                              rw [show (b.2.2.1 12) = (nI (lvN u j)) from by rw [hb2]; exact hk]
                              refine lv_iconst (v := 5) hx hb d_M_train_90 (by decide) ?_
                              refine lv_imul hx hb d_M_train_91 ?_
                              rw [show ((nI (lvN u j)) * 5) = (nI ((lvN u j) * 5)) from pk_mul _ _]
                              refine lv_iload hx hb d_M_train_92 (lv_at hl 0 rfl) ?_
                              refine lv_iadd hx hb d_M_train_94 ?_
                              rw [show ((nI ((lvN u j) * 5)) + (nI f)) = (nI ((lvN u j) * 5 + f)) from nI_add _ _]
                              refine lv_aload_n hx hb d_M_train_95 rfl (lv_at hl 2 rfl) ?_
                              refine lv_iload hx hb d_M_train_96 (lv_at hl 1 rfl) ?_
                              refine lv_bipush (v := 16) hx hb d_M_train_98 (by decide) ?_
                              refine lv_idiv hx hb d_M_train_100 (by decide) ?_
                              rw [show ((nI j) / 16) = (nI (j / 16)) from pk_div (a := j) (d := 16) (by omega) (by decide) (by decide)]
                              refine lv_iload hx hb d_M_train_101 (lv_at hl 1 rfl) ?_
                              refine lv_bipush (v := 16) hx hb d_M_train_103 (by decide) ?_
                              refine lv_irem hx hb d_M_train_105 (by decide) ?_
                              rw [show ((nI j) - (nI j) / 16 * 16) = (nI (j % 16)) from pk_rem (a := j) (d := 16) (by omega) (by decide) (by decide)]
                              refine lv_iload hx hb d_M_train_106 (lv_at hl 0 rfl) ?_
                              refine x_ci (x_runV (na := 3) (k := 75) (As := [.int (nI (j / 16)), .int (nI (j % 16)), .int (nI f)]) (rest := [.int (nI ((lvN u j) * 5 + f)), .ref (ad 85)]) (ci := 7) ⟨hx, hb, hml, hown, ht⟩ (m_M_featureOf (u := b) (j / 16) (j % 16) (nI f) (by omega) (by omega) _) w_589 w_591 s_15 w_9 w_592 (by decide +kernel) ⟨rfl, rfl, by decide, by decide⟩ hw (by decide) o_M rfl rfl hl.1 rfl (Nat.le_of_ble_eq_true rfl) d_M_train_108 ⟨Nat.zero_le _, Nat.zero_le _⟩) hw hA (fun v108 u108 H locs hp hw => ?_)
                              obtain ⟨hv9, hu⟩ := hp
                              subst hv9
                              have hu := hu.symm
                              subst hu
                              refine x_iast (k := 85) hx hb hw (by decide) rfl (vin (N := 80) (by omega) rfl (by omega)) d_M_train_111 (fun H locs hw => ?_)
                              rw [nI_clamp (n := (lvN u j) * 5 + f) (by omega)] at hw
                              rw [show (sI b 85 ((lvN u j) * 5 + f) (featF (fun i => b.1 78 ((j % 16) * 12 + i)) (b.1 79 (j / 16)) (b.1 77 (j % 16)) (nI f))) = (sI b 85 (lvN u j * 5 + f) (ftM u (j / 16) (j % 16) (nI f))) from by unfold ftM; rw [hb0 78 (by decide), hb0 79 (by decide), hb0 77 (by decide)]] at hw
                              refine lv_iinc (v := (nI (f + 1))) (lv' := [(5, .int (nI (f + 1))), (4, .int (nI j)), (0, .ref (ad 75)), (1, .int (nI a)), (2, .int z), (3, .int y)]) hx hb d_M_train_112 hl (k := 0) rfl (nI_1 _) (by decide) rfl (fun ls hl => ?_)
                              refine lv_goto (tgt := 76) hx hb d_M_train_115 (by decide) ?_
                              exact ih76 (f + 1) ((sI b 85 (lvN u j * 5 + f) (ftM u (j / 16) (j % 16) (nI f)))) (by omega) (by rw [← hv2]; rfl) (hb2) (fun k hk9 => by rw [sI_ne hk9]; exact hb0 k hk9) (by omega) _ _ hw ls (lv_sub hl [0, 1, 2, 3, 4, 5] rfl)
                        exact L76 ((5 - 0) + 1) (0) (w) (by omega) (rfl) (rfl) (hw0) (by omega) _ _ hw ls (lv_sub hl [0, 1, 2, 3, 4, 5] rfl)
                      · refine lv_goto (tgt := 149) hx hb d_M_train_70 (by decide) ?_
                        refine lv_iinc (v := (nI (j + 1))) (lv' := [(4, .int (nI (j + 1))), (0, .ref (ad 75)), (1, .int (nI a)), (2, .int z), (3, .int y)]) hx hb d_M_train_149 hl (k := 0) rfl (nI_1 _) (by decide) rfl (fun ls hl => ?_)
                        refine lv_goto (tgt := 39) hx hb d_M_train_152 (by decide) ?_
                        exact ih39 (j + 1) (w) (by omega) (by simp only [trM]; rw [hv]; first | (rw [if_pos c54]; done) | (rw [if_neg c54, if_pos c67]; done) | (rw [if_neg c54, if_neg c67, ← hv2, show f = 5 by omega]; done)) (by simp only [lvN]; first | (rw [if_pos c54]; exact hk) | (rw [if_neg c54, if_pos c67]; exact hk) | (rw [if_neg c54, if_neg c67]; rfl)) (by first | exact hw0 | exact hb0) (by omega) _ _ hw ls (lv_sub hl [0, 1, 2, 3, 4] rfl)
              exact L39 ((128 - 0) + 1) (0) ((sF u 12 0)) (by omega) (rfl) (rfl) (fun _ _ => rfl) (by omega) _ _ hw ls (lv_sub hl [0, 1, 2, 3, 4] rfl)
            · refine lv_iconst (v := (-1)) hx hb d_M_train_29 (by decide) ?_
              exact x_iret hsz hx hb hr hlk hw (by simp [trainM, c1, c6, c10, c15, c20, c26]) d_M_train_30)
