def mbN (a : Nat) : Nat := if a = 0 then 0 else if a = 1 then 1 else 3
theorem mbN_le (a : Nat) (h : a ≤ 2) : mbN a ≤ 3 := by
  unfold mbN
  split; omega; split <;> omega
theorem mb_eq (a : Nat) (h : a ≤ 2) : ((1 : Int32) <<< (nI a &&& 31)) - 1 = nI (mbN a) := (show ∀ a, a ≤ 2 → ((1 : Int32) <<< (nI a &&& 31)) - 1 = nI (mbN a) by decide) a h
theorem ite01 {q : Prop} [Decidable q] (h : (if q then (0 : Int32) else 1) = 0) : q := by
  by_cases c : q
  · exact c
  · rw [if_neg c] at h; exact absurd h (by decide)
def suF (w : St) (n k : Nat) : St := sF (sG w 0 (nsF (w.2.1 15) (w.1 17) (nI n) k)) 5 (ncF (w.1 17) (nI n) k)
theorem suF_1 {w : St} {n k : Nat} : (suF w n k).1 = w.1 := rfl
theorem wsF_6 {u : St} {f x : Int32} {y : Int64} {a : Int32} : (wsF u f x y a).2.2.1 6 = u.2.2.1 6 ∨ (wsF u f x y a).2.2.1 6 = f := by
  unfold wsF
  repeat' split
  all_goals first | exact Or.inl rfl | exact Or.inr rfl
theorem wtF_6 {u : St} {x : Int32} {f : Nat} : ∀ t, (wtF u x f t).2.2.2.2.2.1 6 = u.2.2.1 6 ∨ (wtF u x f t).2.2.2.2.2.1 6 = nI f := by
  intro t
  induction t with
  | zero => exact Or.inl rfl
  | succ t ih =>
    simp only [wtF]
    split
    · split
      · exact ih
      · rcases wsF_6 (u := (wtF u x f t).2.2.2) (f := nI f) (x := (wtF u x f t).2.2.1) (y := (wtF u x f t).1) (a := (wtF u x f t).2.1) with h | h
        · rw [h]; exact ih
        · exact Or.inr h
    · exact ih
theorem fsF_6 (u : St) (x : Int32) (k : Nat) : ∀ f, f ≤ 5 → ((fsF u x k f).2.2.1 6 = -1 ∨ ∃ j : Nat, j < 5 ∧ (fsF u x k f).2.2.1 6 = nI j) := by
  intro f
  induction f with
  | zero => intro _; exact Or.inl rfl
  | succ f ih =>
    intro hf
    simp only [fsF]
    rcases wtF_6 (u := fsF u x k f) (x := x) (f := f) k with h | h
    · rw [h]; exact ih (by omega)
    · exact Or.inr ⟨f, by omega, h⟩
theorem fsF_1 {u : St} {x : Int32} {k : Nat} : ∀ {f : Nat}, (fsF u x k f).1 = u.1 := by
  intro f
  induction f with
  | zero => rfl
  | succ f ih => simp only [fsF]; rw [wtF_1]; exact ih
theorem fsF_21 {u : St} {x : Int32} {k : Nat} : ∀ {f : Nat}, (fsF u x k f).2.1 = u.2.1 := by
  intro f
  induction f with
  | zero => rfl
  | succ f ih => simp only [fsF]; rw [(wtF_all k).2.1]; exact ih
theorem fsF_3 {u : St} {x : Int32} {k : Nat} : ∀ {f : Nat}, (fsF u x k f).2.2.1 3 = u.2.2.1 3 := by
  intro f
  induction f with
  | zero => rfl
  | succ f ih => simp only [fsF]; rw [wtF_3]; exact ih
theorem sendF_2 {u : St} {t n fe : Nat} : ∀ i, (sendF u t n fe i).2 = u.2 := by
  intro i
  induction i with
  | zero => rfl
  | succ i ih =>
    simp only [sendF]
    split
    · exact ih
    · exact ih
theorem sendF_ne {u : St} {t n fe c : Nat} (h : c ≠ 17) : ∀ i, (sendF u t n fe i).1 c = u.1 c := by
  intro i
  induction i with
  | zero => rfl
  | succ i ih =>
    simp only [sendF]
    split
    · rw [sI_ne h]; exact ih
    · exact ih
def lfX (w : St) (t n : Nat) : St := sL (sI (sI w (63 + t) n (-1)) (67 + t) n (-1)) (71 + t) n (w.2.2.2 0 / (nI (shareI (w.2.2.1 5))).toInt64)
def spX (w : St) (t n fe k : Nat) : St := sendF (sL (sI (sI w (63 + t) n (nI fe)) (67 + t) n (w.2.2.1 7)) (71 + t) n 0) t n fe k
def gxS (w : St) (t a n k : Nat) : St := if ncF (w.1 17) (nI n) k ≤ 0 then suF w n k else if mbN a ≤ n then lfX (suF w n k) t n else if (fsF (suF w n k) (nI n) k 5).2.2.1 6 = -1 then lfX (fsF (suF w n k) (nI n) k 5) t n else spX (fsF (suF w n k) (nI n) k 5) t n ((fsF (suF w n k) (nI n) k 5).2.2.1 6).toNatClampNeg k
def gxF (u : St) (t a : Nat) (y : Int32) (k : Nat) : Nat → St
  | 0 => fillF (sF u 4 y) 17 0 16
  | n + 1 => gxS (gxF u t a y k n) t a n k
def rsX (w : St) (t : Nat) : Nat → St
  | 0 => w
  | i + 1 => sL (rsX w t i) 15 i (w.2.1 15 i - w.2.1 (71 + t) (walkN (w.1 (63 + t)) (w.1 (67 + t)) (w.1 (38 + i)) 2 0))
def growX (u : St) (t a : Nat) (y : Int32) (k : Nat) : St := rsX (gxF u t a y k 7) t k
theorem gxS_3 {w : St} {t a n k : Nat} : (gxS w t a n k).2.2.1 3 = w.2.2.1 3 := by
  unfold gxS
  split
  · rfl
  · split
    · rfl
    · split
      · show (fsF _ _ _ _).2.2.1 3 = _; rw [fsF_3]; rfl
      · show (sendF _ _ _ _ _).2.2.1 3 = _; rw [sendF_2]; show (fsF _ _ _ _).2.2.1 3 = _; rw [fsF_3]; rfl
theorem gxS_ne {w : St} {t a n k j : Nat} (h7 : j ≠ 17) (h8 : j ≠ 63 + t) (h9 : j ≠ 67 + t) : (gxS w t a n k).1 j = w.1 j := by
  unfold gxS
  split
  · rfl
  · split
    · show (sI (sI _ _ _ _) _ _ _).1 j = _; rw [sI_ne h9, sI_ne h8]; rfl
    · split
      · show (sI (sI _ _ _ _) _ _ _).1 j = _; rw [sI_ne h9, sI_ne h8, fsF_1]; rfl
      · unfold spX; rw [sendF_ne h7]; show (sI (sI _ _ _ _) _ _ _).1 j = _; rw [sI_ne h9, sI_ne h8, fsF_1]; rfl
theorem upd_lt {f : Nat → Int32} {n : Nat} {x : Int32} (hx : x < 5) (h : ∀ j, j < 7 → f j < 5) : ∀ j, j < 7 → upd f n x j < 5 := by
  intro j hj
  unfold upd
  split
  · exact hx
  · exact h j hj
theorem gxS_T {w : St} {t a n k : Nat} (ht4 : t < 4) (h : ∀ j, j < 7 → w.1 (63 + t) j < 5) : ∀ j, j < 7 → (gxS w t a n k).1 (63 + t) j < 5 := by
  unfold gxS
  split
  · exact h
  · split
    · intro j hj
      show (sI (sI _ _ _ _) _ _ _).1 (63 + t) j < 5
      rw [sI_ne (by omega), sI_eq]
      exact upd_lt (by decide) h j hj
    · split
      · intro j hj
        show (sI (sI _ _ _ _) _ _ _).1 (63 + t) j < 5
        rw [sI_ne (by omega), sI_eq, fsF_1]
        exact upd_lt (by decide) h j hj
      · rename_i c
        intro j hj
        obtain ⟨fe, hfe5, hfe⟩ := (fsF_6 (suF w n k) (nI n) k 5 (by omega)).resolve_left c
        unfold spX
        rw [sendF_ne (by omega), hfe, nI_clamp (by omega)]
        show (sI (sI _ _ _ _) _ _ _).1 (63 + t) j < 5
        rw [sI_ne (by omega), sI_eq, fsF_1]
        exact upd_lt ((nI_ltI (a := fe) (b := 5) (by omega) (by omega)).mpr hfe5) h j hj
set_option maxHeartbeats 4000000 in
set_option maxRecDepth 100000 in
theorem m_Gr_grow {l : Launch} {D : va_G} {g : Ids} {ad : Nat → Nat} {u : St} (t : Nat) (a : Nat) (y : Int32) (k : Nat) (ht4 : t < 4) (ha2 : a ≤ 2) (hk16 : k ≤ 16) (hns : u.2.2.1 3 = nI k) (hord : ∀ f, f < 5 → ∀ i, i < k → ∃ j : Nat, j < 16 ∧ u.1 (54 + f) i = nI j) (hT : ∀ j, j < 7 → u.1 (63 + t) j < 5) : XMv l D g ad y_Gr_grow b_Gr_grow 6 (none) (rmN 5 121) [.ref (ad 5), .ref (ad (59 + t)), .int (nI a), .int y] u (fun r => r = growX u t a y k) := fun sz => x_met (by decide) (Nat.le_of_ble_eq_true rfl) (fun p e s m below meth c hsz hx hb hr hml hown ht hlk hw ls hl => by
  have hA : ∀ q, s.heap.size ≤ q → AX ad sz q := fun q h => Or.inr (hsz ▸ h)
  have hl : lv_has ls 6 [(0, .ref (ad 5)), (1, .ref (ad (59 + t))), (2, .int (nI a)), (3, .int y)] := hl
  have hmb := mbN_le a ha2
  refine lv_aload_n hx hb d_Gr_grow_0 rfl (lv_at hl 0 rfl) ?_
  refine lv_iload_n hx hb d_Gr_grow_1 rfl (lv_at hl 3 rfl) ?_
  refine x_puti (ci := 1) (k := 5) hx hb ht in_Gr t_Gr t_Gr_ok n_Gr hown hw (by decide) o_Gr rfl 5 (4) (by decide) (ht _ w_99) rfl (by decide +kernel) (Nat.le_of_ble_eq_true rfl) rfl rfl d_Gr_grow_2 (fun H locs hw => ?_)
  refine lv_aload_n hx hb d_Gr_grow_5 rfl (lv_at hl 0 rfl) ?_
  refine x_get (ci := 1) (k := 5) hx hb ht in_Gr hown hw (by decide) o_Gr rfl 4 (by decide) (ht _ w_98) rfl d_Gr_grow_6 ?_
  refine lv_iconst (v := 0) hx hb d_Gr_grow_9 (by decide) ?_
  refine x_cv (x_runS (na := 2) (As := [.ref (ad 17), .int 0]) (rest := []) ⟨hx, hb, hml, hown, ht⟩ (m_Arrays_fill 17 0 (by decide) rfl _) w_292 w_47 w_4 w_48 (by decide +kernel) ⟨rfl, rfl, by decide, by decide⟩ hw rfl hl.1 rfl (Nat.le_of_ble_eq_true rfl) d_Gr_grow_10 ⟨Nat.zero_le _, Nat.zero_le _⟩) hw hA (fun u10 H locs hp hw => ?_)
  have hu := hp.symm
  subst hu
  refine lv_iconst (v := 1) hx hb d_Gr_grow_13 (by decide) ?_
  refine lv_iload_n hx hb d_Gr_grow_14 rfl (lv_at hl 2 rfl) ?_
  refine lv_ishl hx hb d_Gr_grow_15 ?_
  refine lv_iconst (v := 1) hx hb d_Gr_grow_16 (by decide) ?_
  refine lv_isub hx hb d_Gr_grow_17 ?_
  rw [show (((1 : Int32) <<< ((nI a) &&& 31)) - 1) = (nI (mbN a)) from mb_eq a ha2]
  refine lv_istore (lv' := [(4, .int (nI (mbN a))), (0, .ref (ad 5)), (1, .ref (ad (59 + t))), (2, .int (nI a)), (3, .int y)]) hx hb d_Gr_grow_18 hl (by decide) rfl (fun ls hl => ?_)
  refine lv_iconst (v := 0) hx hb d_Gr_grow_20 (by decide) ?_
  refine lv_istore (lv' := [(5, .int 0), (4, .int (nI (mbN a))), (0, .ref (ad 5)), (1, .ref (ad (59 + t))), (2, .int (nI a)), (3, .int y)]) hx hb d_Gr_grow_21 hl (by decide) rfl (fun ls hl => ?_)
  have L23 : ∀ (n23 : Nat) (n : Nat) (w : St), n ≤ 7 → gxF u t a y k n = w → w.2.2.1 3 = nI k → (∀ j, j ≠ 17 → j ≠ 63 + t → j ≠ 67 + t → w.1 j = u.1 j) → (∀ j, j < 7 → w.1 (63 + t) j < 5) → 7 - n < n23 → ∀ (H : Heap) (locs : List Loc), XH D g ad (AX ad sz) s s.heap H locs w → ∀ ls : Array Slot, lv_has ls 6 [(5, .int (nI n)), (4, .int (nI (mbN a))), (0, .ref (ad 5)), (1, .ref (ad (59 + t))), (2, .int (nI a)), (3, .int y)] → W p l e (rmN 5 121) s m ([.ref (ad 5), .ref (ad (59 + t)), .int (nI a), .int y] : List Value).toArray below meth c H locs 0 0 (MQ below (va_Qv (fun r => r = growX u t a y k) (XB D g ad sz) (AX ad sz)) ([.ref (ad 5), .ref (ad (59 + t)), .int (nI a), .int y] : List Value).toArray s 0 0 (AX ad sz)) (F0 m 23 ls []) := by
    intro n23
    induction n23 with
    | zero => intro n w h2 hv hw3 hwc hwT hz; exact absurd hz (by omega)
    | succ n23 ih23 =>
      intro n w h2 hv hw3 hwc hwT hnL23 H locs hw ls hl
      refine lv_iload hx hb d_Gr_grow_23 (lv_at hl 0 rfl) ?_
      refine lv_bipush (v := 7) hx hb d_Gr_grow_25 (by decide) ?_
      refine lv_icmp_ge (tgt := 108) hx hb d_Gr_grow_27 (by decide) (fun c27 => ?_) (fun c27 => ?_)
      · have h27 : (7) ≤ (n) := (nI_leI (a := 7) (b := n) (by omega) (by omega)).mp c27
        refine lv_iconst (v := 0) hx hb d_Gr_grow_108 (by decide) ?_
        refine lv_istore (lv' := [(5, .int 0), (4, .int (nI (mbN a))), (0, .ref (ad 5)), (1, .ref (ad (59 + t))), (2, .int (nI a)), (3, .int y)]) hx hb d_Gr_grow_109 hl (by decide) rfl (fun ls hl => ?_)
        have L111 : ∀ (n111 : Nat) (i : Nat) (b : St), i ≤ k → rsX w t i = b → b.1 = w.1 → (∀ j, j ≠ 15 → b.2.1 j = w.2.1 j) → (∀ j, i ≤ j → b.2.1 15 j = w.2.1 15 j) → b.2.2 = w.2.2 → k - i < n111 → ∀ (H : Heap) (locs : List Loc), XH D g ad (AX ad sz) s s.heap H locs b → ∀ ls : Array Slot, lv_has ls 6 [(5, .int (nI i)), (4, .int (nI (mbN a))), (0, .ref (ad 5)), (1, .ref (ad (59 + t))), (2, .int (nI a)), (3, .int y)] → W p l e (rmN 5 121) s m ([.ref (ad 5), .ref (ad (59 + t)), .int (nI a), .int y] : List Value).toArray below meth c H locs 0 0 (MQ below (va_Qv (fun r => r = growX u t a y k) (XB D g ad sz) (AX ad sz)) ([.ref (ad 5), .ref (ad (59 + t)), .int (nI a), .int y] : List Value).toArray s 0 0 (AX ad sz)) (F0 m 111 ls []) := by
          intro n111
          induction n111 with
          | zero => intro i b h3 hv3 hb1 hb2 hb3 hb4 hz; exact absurd hz (by omega)
          | succ n111 ih111 =>
            intro i b h3 hv3 hb1 hb2 hb3 hb4 hnL111 H locs hw ls hl
            refine lv_iload hx hb d_Gr_grow_111 (lv_at hl 0 rfl) ?_
            refine lv_aload_n hx hb d_Gr_grow_113 rfl (lv_at hl 2 rfl) ?_
            refine x_get (ci := 1) (k := 5) hx hb ht in_Gr hown hw (by decide) o_Gr rfl 3 (by decide) (ht _ w_97) rfl d_Gr_grow_114 ?_
            rw [show (b.2.2.1 3) = (nI k) from by rw [hb4]; exact hw3]
            refine lv_icmp_ge (tgt := 147) hx hb d_Gr_grow_117 (by decide) (fun c117 => ?_) (fun c117 => ?_)
            · have h117 : (k) ≤ (i) := (nI_leI (a := k) (b := i) (by omega) (by omega)).mp c117
              exact x_vret hsz hx hb hr hlk hw (by unfold growX; rw [← hv3, show i = k by omega, ← hv, show n = 7 by omega]) d_Gr_grow_147
            · have h117 : ¬ (k) ≤ (i) := fun hz9 => c117 ((nI_leI (a := k) (b := i) (by omega) (by omega)).mpr hz9)
              refine lv_aload_n hx hb d_Gr_grow_120 rfl (lv_at hl 2 rfl) ?_
              refine x_get (ci := 1) (k := 5) hx hb ht in_Gr hown hw (by decide) o_Gr rfl 1 (by decide) (ht _ w_95) rfl d_Gr_grow_121 ?_
              refine lv_iload hx hb d_Gr_grow_124 (lv_at hl 0 rfl) ?_
              refine lv_dup2_11 hx hb d_Gr_grow_126 rfl rfl ?_
              refine x_lald (k := 15) hx hb hw (by decide) rfl (vin (N := 16) (by omega) rfl (by omega)) d_Gr_grow_127 ?_
              rw [nI_clamp (n := i) (by omega)]
              rw [show (b.2.1 15 i) = (w.2.1 15 i) from by rw [hb3 i (Nat.le_refl i)]]
              refine lv_aload_n hx hb d_Gr_grow_128 rfl (lv_at hl 3 rfl) ?_
              refine lv_aload_n hx hb d_Gr_grow_129 rfl (lv_at hl 2 rfl) ?_
              refine x_get (ci := 1) (k := 5) hx hb ht in_Gr hown hw (by decide) o_Gr rfl 0 (by decide) (ht _ w_94) rfl d_Gr_grow_130 ?_
              refine lv_iload hx hb d_Gr_grow_133 (lv_at hl 0 rfl) ?_
              refine x_aald (k := 14) (b := 38) (n := 16) (t0 := 3) hx hb hw (by decide) (fun _ => rfl) rfl rfl (vp_in_nI (by omega) (by decide)) d_Gr_grow_135 ?_
              rw [nI_clamp (n := i) (by omega)]
              refine x_cl (x_runV (na := 1) (k := 59 + t) (As := [.ref (ad (38 + i))]) (rest := [.long (w.2.1 15 i), .int (nI i), .ref (ad 15)]) (ci := 5) ⟨hx, hb, hml, hown, ht⟩ (m_Tr_valueFor (u := b) t (38 + i) ht4 (by omega) (xk_gf i (by omega)).1 (xk_gf i (by omega)).2 (fun j hj => by rw [hb1]; exact hwT j hj) _) w_331 w_332 w_333 w_6 w_334 (by decide +kernel) ⟨rfl, rfl, by decide, by decide⟩ hw (by omega) (o_Tr ht4) rfl rfl hl.1 rfl (Nat.le_of_ble_eq_true rfl) d_Gr_grow_136 ⟨Nat.zero_le _, Nat.zero_le _⟩) hw hA (fun v136 u136 H locs hp hw => ?_)
              obtain ⟨hv9, hu⟩ := hp
              subst hv9
              have hu := hu.symm
              subst hu
              rw [show (b.2.1 (71 + t) (walkN (b.1 (63 + t)) (b.1 (67 + t)) (b.1 (38 + i)) 2 0)) = (w.2.1 (71 + t) (walkN (w.1 (63 + t)) (w.1 (67 + t)) (w.1 (38 + i)) 2 0)) from by rw [hb1, hb2 _ (by omega)]]
              refine lv_lsub hx hb d_Gr_grow_139 ?_
              refine x_last (k := 15) hx hb hw (by decide) rfl (vin (N := 16) (by omega) rfl (by omega)) d_Gr_grow_140 (fun H locs hw => ?_)
              rw [nI_clamp (n := i) (by omega)] at hw
              refine lv_iinc (v := (nI (i + 1))) (lv' := [(5, .int (nI (i + 1))), (4, .int (nI (mbN a))), (0, .ref (ad 5)), (1, .ref (ad (59 + t))), (2, .int (nI a)), (3, .int y)]) hx hb d_Gr_grow_141 hl (k := 0) rfl (nI_1 _) (by decide) rfl (fun ls hl => ?_)
              refine lv_goto (tgt := 111) hx hb d_Gr_grow_144 (by decide) ?_
              exact ih111 (i + 1) ((sL b 15 i ((w.2.1 15 i) - (w.2.1 (71 + t) (walkN (w.1 (63 + t)) (w.1 (67 + t)) (w.1 (38 + i)) 2 0))))) (by omega) (by rw [← hv3]; rfl) (hb1) (fun j hj => by rw [sL_ne hj]; exact hb2 j hj) (fun j hj => by rw [sL_eq]; show vp_updL _ _ _ _ = _; unfold vp_updL; rw [if_neg (by omega)]; exact hb3 j (by omega)) (hb4) (by omega) _ _ hw ls (lv_sub hl [0, 1, 2, 3, 4, 5] rfl)
        exact L111 ((k - 0) + 1) (0) (w) (by omega) (rfl) (rfl) (fun _ _ => rfl) (fun _ _ => rfl) (rfl) (by omega) _ _ hw ls (lv_sub hl [0, 1, 2, 3, 4, 5] rfl)
      · have h27 : ¬ (7) ≤ (n) := fun hz9 => c27 ((nI_leI (a := 7) (b := n) (by omega) (by omega)).mpr hz9)
        refine lv_aload_n hx hb d_Gr_grow_30 rfl (lv_at hl 2 rfl) ?_
        refine lv_iload hx hb d_Gr_grow_31 (lv_at hl 0 rfl) ?_
        refine x_cv (x_runV (na := 1) (k := 5) (As := [.int (nI n)]) (rest := []) (ci := 1) ⟨hx, hb, hml, hown, ht⟩ (m_Gr_sumUp (u := w) (nI n) k hk16 hw3 _) w_293 w_295 s_4 w_7 w_296 (by decide +kernel) ⟨rfl, rfl, by decide, by decide⟩ hw (by decide) o_Gr rfl rfl hl.1 rfl (Nat.le_of_ble_eq_true rfl) d_Gr_grow_33 ⟨Nat.zero_le _, Nat.zero_le _⟩) hw hA (fun u33 H locs hp hw => ?_)
        have hu : u33 = suF w n k := hp
        subst hu
        refine lv_aload_n hx hb d_Gr_grow_36 rfl (lv_at hl 2 rfl) ?_
        refine x_get (ci := 1) (k := 5) hx hb ht in_Gr hown hw (by decide) o_Gr rfl 7 (by decide) (ht _ w_101) rfl d_Gr_grow_37 ?_
        rw [show ((suF w n k).2.2.1 5) = (ncF (w.1 17) (nI n) k) from rfl]
        refine lv_if_le (tgt := 102) hx hb d_Gr_grow_40 (by decide) (fun c40 => ?_) (fun c40 => ?_)
        · refine lv_iinc (v := (nI (n + 1))) (lv' := [(5, .int (nI (n + 1))), (4, .int (nI (mbN a))), (0, .ref (ad 5)), (1, .ref (ad (59 + t))), (2, .int (nI a)), (3, .int y)]) hx hb d_Gr_grow_102 hl (k := 0) rfl (nI_1 _) (by decide) rfl (fun ls hl => ?_)
          refine lv_goto (tgt := 23) hx hb d_Gr_grow_105 (by decide) ?_
          exact ih23 (n + 1) (gxS w t a n k) (by omega) (by rw [← hv]; rfl) (by rw [gxS_3]; exact hw3) (fun j h7 h8 h9 => by rw [gxS_ne h7 h8 h9]; exact hwc j h7 h8 h9) (gxS_T ht4 hwT) (by omega) _ _ (by rw [show gxS w t a n k = (suF w n k) from by unfold gxS; first | (rw [if_pos c40]; done) | (rw [if_neg c40, if_pos h47]; rfl) | (rw [if_neg c40, if_neg h47, if_pos hno, hu53]; rfl) | (rw [if_neg c40, if_neg h47, if_neg hyes, ← hu53, hfe, nI_clamp (by omega)]; rfl)]; exact hw) ls (lv_sub hl [0, 1, 2, 3, 4, 5] rfl)
        · refine lv_iload hx hb d_Gr_grow_43 (lv_at hl 0 rfl) ?_
          refine lv_iload hx hb d_Gr_grow_45 (lv_at hl 1 rfl) ?_
          refine lv_icmp_ge (tgt := 83) hx hb d_Gr_grow_47 (by decide) (fun c47 => ?_) (fun c47 => ?_)
          · have h47 : (mbN a) ≤ (n) := (nI_leI (a := mbN a) (b := n) (by omega) (by omega)).mp c47
            refine lv_aload_n hx hb d_Gr_grow_83 rfl (lv_at hl 3 rfl) ?_
            refine lv_iload hx hb d_Gr_grow_84 (lv_at hl 0 rfl) ?_
            refine lv_aload_n hx hb d_Gr_grow_86 rfl (lv_at hl 2 rfl) ?_
            refine x_get (ci := 1) (k := 5) hx hb ht in_Gr hown hw (by decide) o_Gr rfl 6 (by decide) (ht _ w_100) rfl d_Gr_grow_87 ?_
            refine lv_aload_n hx hb d_Gr_grow_90 rfl (lv_at hl 2 rfl) ?_
            refine x_get (ci := 1) (k := 5) hx hb ht in_Gr hown hw (by decide) o_Gr rfl 7 (by decide) (ht _ w_101) rfl d_Gr_grow_91 ?_
            refine x_ci (x_runS (na := 1) (As := [.int ((suF w n k).2.2.1 5)]) (rest := [.long ((suF w n k).2.2.2 0), .int (nI n), .ref (ad (59 + t))]) ⟨hx, hb, hml, hown, ht⟩ (m_Gr_share ((suF w n k).2.2.1 5) _) w_304 w_305 w_7 w_306 (by decide +kernel) ⟨rfl, rfl, by decide, by decide⟩ hw rfl hl.1 rfl (Nat.le_of_ble_eq_true rfl) d_Gr_grow_94 ⟨Nat.zero_le _, Nat.zero_le _⟩) hw hA (fun v94 u94 H locs hp hw => ?_)
            obtain ⟨hv9, hu⟩ := hp
            subst hv9
            have hu := hu.symm
            subst hu
            refine lv_i2l (v := (nI (shareI ((suF w n k).2.2.1 5))).toInt64) hx hb d_Gr_grow_97 rfl ?_
            refine lv_ldiv hx hb d_Gr_grow_98 (shareI_ne _) ?_
            refine x_cv (x_runV (na := 2) (k := 59 + t) (As := [.int (nI n), .long (((suF w n k).2.2.2 0) / (nI (shareI ((suF w n k).2.2.1 5))).toInt64)]) (rest := []) (ci := 5) ⟨hx, hb, hml, hown, ht⟩ (m_Tr_makeLeaf t n ((((suF w n k).2.2.2 0) / (nI (shareI ((suF w n k).2.2.1 5))).toInt64)) ht4 (by omega) _) w_327 w_328 w_329 w_6 w_330 (by decide +kernel) ⟨rfl, rfl, by decide, by decide⟩ hw (by omega) (o_Tr ht4) rfl rfl hl.1 rfl (Nat.le_of_ble_eq_true rfl) d_Gr_grow_99 ⟨Nat.zero_le _, Nat.zero_le _⟩) hw hA (fun u99 H locs hp hw => ?_)
            have hu := hp.symm
            subst hu
            refine lv_iinc (v := (nI (n + 1))) (lv' := [(5, .int (nI (n + 1))), (4, .int (nI (mbN a))), (0, .ref (ad 5)), (1, .ref (ad (59 + t))), (2, .int (nI a)), (3, .int y)]) hx hb d_Gr_grow_102 hl (k := 0) rfl (nI_1 _) (by decide) rfl (fun ls hl => ?_)
            refine lv_goto (tgt := 23) hx hb d_Gr_grow_105 (by decide) ?_
            exact ih23 (n + 1) (gxS w t a n k) (by omega) (by rw [← hv]; rfl) (by rw [gxS_3]; exact hw3) (fun j h7 h8 h9 => by rw [gxS_ne h7 h8 h9]; exact hwc j h7 h8 h9) (gxS_T ht4 hwT) (by omega) _ _ (by rw [show gxS w t a n k = (sL (sI (sI (suF w n k) (63 + t) n (-1)) (67 + t) n (-1)) (71 + t) n (((suF w n k).2.2.2 0) / (nI (shareI ((suF w n k).2.2.1 5))).toInt64)) from by unfold gxS; first | (rw [if_pos c40]; done) | (rw [if_neg c40, if_pos h47]; rfl) | (rw [if_neg c40, if_neg h47, if_pos hno, hu53]; rfl) | (rw [if_neg c40, if_neg h47, if_neg hyes, ← hu53, hfe, nI_clamp (by omega)]; rfl)]; exact hw) ls (lv_sub hl [0, 1, 2, 3, 4, 5] rfl)
          · have h47 : ¬ (mbN a) ≤ (n) := fun hz9 => c47 ((nI_leI (a := mbN a) (b := n) (by omega) (by omega)).mpr hz9)
            refine lv_aload_n hx hb d_Gr_grow_50 rfl (lv_at hl 2 rfl) ?_
            refine lv_iload hx hb d_Gr_grow_51 (lv_at hl 0 rfl) ?_
            refine x_ci (x_runV (na := 1) (k := 5) (As := [.int (nI n)]) (rest := []) (ci := 1) ⟨hx, hb, hml, hown, ht⟩ (m_Gr_findSplit (u := (suF w n k)) (nI n) k hk16 hw3 (fun f hf i hi => by rw [suF_1, hwc _ (by omega) (by omega) (by omega)]; exact hord f hf i hi) _) w_297 w_299 s_5 w_7 w_300 (by decide +kernel) ⟨rfl, rfl, by decide, by decide⟩ hw (by decide) o_Gr rfl rfl hl.1 rfl (Nat.le_of_ble_eq_true rfl) d_Gr_grow_53 ⟨Nat.zero_le _, Nat.zero_le _⟩) hw hA (fun v53 u53 H locs hp hw => ?_)
            obtain ⟨hv9, hu53⟩ := hp
            subst hv9
            have h53 : u53.2.2.1 3 = nI k := by rw [hu53, fsF_3]; exact hw3
            refine lv_if_eq (tgt := 83) hx hb d_Gr_grow_56 (by decide) (fun c56 => ?_) (fun c56 => ?_)
            · have hno : (fsF (suF w n k) (nI n) k 5).2.2.1 6 = -1 := ite01 c56
              refine lv_aload_n hx hb d_Gr_grow_83 rfl (lv_at hl 3 rfl) ?_
              refine lv_iload hx hb d_Gr_grow_84 (lv_at hl 0 rfl) ?_
              refine lv_aload_n hx hb d_Gr_grow_86 rfl (lv_at hl 2 rfl) ?_
              refine x_get (ci := 1) (k := 5) hx hb ht in_Gr hown hw (by decide) o_Gr rfl 6 (by decide) (ht _ w_100) rfl d_Gr_grow_87 ?_
              refine lv_aload_n hx hb d_Gr_grow_90 rfl (lv_at hl 2 rfl) ?_
              refine x_get (ci := 1) (k := 5) hx hb ht in_Gr hown hw (by decide) o_Gr rfl 7 (by decide) (ht _ w_101) rfl d_Gr_grow_91 ?_
              refine x_ci (x_runS (na := 1) (As := [.int (u53.2.2.1 5)]) (rest := [.long (u53.2.2.2 0), .int (nI n), .ref (ad (59 + t))]) ⟨hx, hb, hml, hown, ht⟩ (m_Gr_share (u53.2.2.1 5) _) w_304 w_305 w_7 w_306 (by decide +kernel) ⟨rfl, rfl, by decide, by decide⟩ hw rfl hl.1 rfl (Nat.le_of_ble_eq_true rfl) d_Gr_grow_94 ⟨Nat.zero_le _, Nat.zero_le _⟩) hw hA (fun v94 u94 H locs hp hw => ?_)
              obtain ⟨hv9, hu⟩ := hp
              subst hv9
              have hu := hu.symm
              subst hu
              refine lv_i2l (v := (nI (shareI (u53.2.2.1 5))).toInt64) hx hb d_Gr_grow_97 rfl ?_
              refine lv_ldiv hx hb d_Gr_grow_98 (shareI_ne _) ?_
              refine x_cv (x_runV (na := 2) (k := 59 + t) (As := [.int (nI n), .long ((u53.2.2.2 0) / (nI (shareI (u53.2.2.1 5))).toInt64)]) (rest := []) (ci := 5) ⟨hx, hb, hml, hown, ht⟩ (m_Tr_makeLeaf t n (((u53.2.2.2 0) / (nI (shareI (u53.2.2.1 5))).toInt64)) ht4 (by omega) _) w_327 w_328 w_329 w_6 w_330 (by decide +kernel) ⟨rfl, rfl, by decide, by decide⟩ hw (by omega) (o_Tr ht4) rfl rfl hl.1 rfl (Nat.le_of_ble_eq_true rfl) d_Gr_grow_99 ⟨Nat.zero_le _, Nat.zero_le _⟩) hw hA (fun u99 H locs hp hw => ?_)
              have hu := hp.symm
              subst hu
              refine lv_iinc (v := (nI (n + 1))) (lv' := [(5, .int (nI (n + 1))), (4, .int (nI (mbN a))), (0, .ref (ad 5)), (1, .ref (ad (59 + t))), (2, .int (nI a)), (3, .int y)]) hx hb d_Gr_grow_102 hl (k := 0) rfl (nI_1 _) (by decide) rfl (fun ls hl => ?_)
              refine lv_goto (tgt := 23) hx hb d_Gr_grow_105 (by decide) ?_
              exact ih23 (n + 1) (gxS w t a n k) (by omega) (by rw [← hv]; rfl) (by rw [gxS_3]; exact hw3) (fun j h7 h8 h9 => by rw [gxS_ne h7 h8 h9]; exact hwc j h7 h8 h9) (gxS_T ht4 hwT) (by omega) _ _ (by rw [show gxS w t a n k = (sL (sI (sI u53 (63 + t) n (-1)) (67 + t) n (-1)) (71 + t) n ((u53.2.2.2 0) / (nI (shareI (u53.2.2.1 5))).toInt64)) from by unfold gxS; first | (rw [if_pos c40]; done) | (rw [if_neg c40, if_pos h47]; rfl) | (rw [if_neg c40, if_neg h47, if_pos hno, hu53]; rfl) | (rw [if_neg c40, if_neg h47, if_neg hyes, ← hu53, hfe, nI_clamp (by omega)]; rfl)]; exact hw) ls (lv_sub hl [0, 1, 2, 3, 4, 5] rfl)
            · have hyes : ¬ (fsF (suF w n k) (nI n) k 5).2.2.1 6 = -1 := fun q => c56 (by rw [if_pos q])
              obtain ⟨fe, hfe5, hfe⟩ : ∃ j : Nat, j < 5 ∧ u53.2.2.1 6 = nI j := by rw [hu53]; exact (fsF_6 (suF w n k) (nI n) k 5 (by omega)).resolve_left hyes
              refine lv_aload_n hx hb d_Gr_grow_59 rfl (lv_at hl 3 rfl) ?_
              refine lv_iload hx hb d_Gr_grow_60 (lv_at hl 0 rfl) ?_
              refine lv_aload_n hx hb d_Gr_grow_62 rfl (lv_at hl 2 rfl) ?_
              refine x_get (ci := 1) (k := 5) hx hb ht in_Gr hown hw (by decide) o_Gr rfl 9 (by decide) (ht _ w_103) rfl d_Gr_grow_63 ?_
              rw [show (u53.2.2.1 6) = (nI fe) from hfe]
              refine lv_aload_n hx hb d_Gr_grow_66 rfl (lv_at hl 2 rfl) ?_
              refine x_get (ci := 1) (k := 5) hx hb ht in_Gr hown hw (by decide) o_Gr rfl 10 (by decide) (ht _ w_104) rfl d_Gr_grow_67 ?_
              refine x_cv (x_runV (na := 3) (k := 59 + t) (As := [.int (nI n), .int (nI fe), .int (u53.2.2.1 7)]) (rest := []) (ci := 5) ⟨hx, hb, hml, hown, ht⟩ (m_Tr_makeSplit t n (nI fe) (u53.2.2.1 7) ht4 (by omega) _) w_315 w_316 w_317 w_6 w_318 (by decide +kernel) ⟨rfl, rfl, by decide, by decide⟩ hw (by omega) (o_Tr ht4) rfl rfl hl.1 rfl (Nat.le_of_ble_eq_true rfl) d_Gr_grow_70 ⟨Nat.zero_le _, Nat.zero_le _⟩) hw hA (fun u70 H locs hp hw => ?_)
              have hu := hp.symm
              subst hu
              refine lv_aload_n hx hb d_Gr_grow_73 rfl (lv_at hl 2 rfl) ?_
              refine lv_aload_n hx hb d_Gr_grow_74 rfl (lv_at hl 3 rfl) ?_
              refine lv_iload hx hb d_Gr_grow_75 (lv_at hl 0 rfl) ?_
              refine x_cv (x_runV (na := 2) (k := 5) (As := [.ref (ad (59 + t)), .int (nI n)]) (rest := []) (ci := 1) ⟨hx, hb, hml, hown, ht⟩ (m_Gr_sendOn (u := (sL (sI (sI u53 (63 + t) n (nI fe)) (67 + t) n (u53.2.2.1 7)) (71 + t) n 0)) t n fe k ht4 (by omega) hfe5 hk16 h53 (by show (sI (sI u53 (63 + t) n (nI fe)) (67 + t) n _).1 (63 + t) n = _; rw [sI_ne (by omega), sI_eq]; exact if_pos rfl) _) w_319 w_321 s_8 w_7 w_322 (by decide +kernel) ⟨rfl, rfl, by decide, by decide⟩ hw (by decide) o_Gr rfl rfl hl.1 rfl (Nat.le_of_ble_eq_true rfl) d_Gr_grow_77 ⟨Nat.zero_le _, Nat.zero_le _⟩) hw hA (fun u77 H locs hp hw => ?_)
              have hu := hp.symm
              subst hu
              refine lv_goto (tgt := 102) hx hb d_Gr_grow_80 (by decide) ?_
              refine lv_iinc (v := (nI (n + 1))) (lv' := [(5, .int (nI (n + 1))), (4, .int (nI (mbN a))), (0, .ref (ad 5)), (1, .ref (ad (59 + t))), (2, .int (nI a)), (3, .int y)]) hx hb d_Gr_grow_102 hl (k := 0) rfl (nI_1 _) (by decide) rfl (fun ls hl => ?_)
              refine lv_goto (tgt := 23) hx hb d_Gr_grow_105 (by decide) ?_
              exact ih23 (n + 1) (gxS w t a n k) (by omega) (by rw [← hv]; rfl) (by rw [gxS_3]; exact hw3) (fun j h7 h8 h9 => by rw [gxS_ne h7 h8 h9]; exact hwc j h7 h8 h9) (gxS_T ht4 hwT) (by omega) _ _ (by rw [show gxS w t a n k = (sendF (sL (sI (sI u53 (63 + t) n (nI fe)) (67 + t) n (u53.2.2.1 7)) (71 + t) n 0) t n fe k) from by unfold gxS; first | (rw [if_pos c40]; done) | (rw [if_neg c40, if_pos h47]; rfl) | (rw [if_neg c40, if_neg h47, if_pos hno, hu53]; rfl) | (rw [if_neg c40, if_neg h47, if_neg hyes, ← hu53, hfe, nI_clamp (by omega)]; rfl)]; exact hw) ls (lv_sub hl [0, 1, 2, 3, 4, 5] rfl)
  exact L23 ((7 - 0) + 1) (0) ((fillF (sF u 4 y) 17 0 (xn 17))) (by omega) (rfl) (hns) (fun j hj _ _ => by rw [fill_ne hj]; rfl) (fun j hj => by rw [fill_ne (by omega)]; exact hT j hj) (by omega) _ _ hw ls (lv_sub hl [0, 1, 2, 3, 4, 5] rfl))
