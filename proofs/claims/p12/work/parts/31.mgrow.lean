theorem fill_ne {u : St} {k n c : Nat} {x : Int32} (h : c ≠ k) : (fillF u k x n).1 c = u.1 c := if_neg h
theorem fill_in {u : St} {k n j : Nat} {x : Int32} (h : j < n) : (fillF u k x n).1 k j = x := by
  have e : (fillF u k x n).1 k = (fun j => if j < n then x else u.1 k j) := if_pos rfl
  rw [e]
  exact if_pos h
theorem half_eq (n : Nat) (h : n < 7) : (nI n - 1) / 2 = nI ((n - 1) / 2) := (show ∀ n, n < 7 → (nI n - 1) / 2 = nI ((n - 1) / 2) by decide) n h
theorem stM_1 {b : St} {x y : Int32} {f k t : Nat} : (stM b x y f k t).1 = b.1 ∧ (stM b x y f k t).2.1 = b.2.1 := by
  unfold stM
  repeat' split
  all_goals exact ⟨rfl, rfl⟩
theorem tMF_1 {a : St} {x y : Int32} {f k : Nat} : ∀ t, (tMF a x y f k t).1 = a.1 ∧ (tMF a x y f k t).2.1 = a.2.1 := by
  intro t
  induction t with
  | zero => exact ⟨rfl, rfl⟩
  | succ t ih => simp only [tMF]; rw [stM_1.1, stM_1.2]; exact ih
theorem fMF_1 {u : St} {x y : Int32} {k : Nat} : ∀ {f : Nat}, (fMF u x y k f).1 = u.1 ∧ (fMF u x y k f).2.1 = u.2.1 := by
  intro f
  induction f with
  | zero => exact ⟨rfl, rfl⟩
  | succ f ih => simp only [fMF]; rw [(tMF_1 200).1, (tMF_1 200).2]; exact ih
theorem selS_1 {u : St} {n k : Nat} {h y : Int32} : (selS u n h y k).1 = u.1 := by
  unfold selS
  split
  · rfl
  · rw [fMF_1.1]; rfl
theorem selS_21 {u : St} {n k : Nat} {h y : Int32} : (selS u n h y k).2.1 = u.2.1 := by
  unfold selS
  split
  · rfl
  · rw [fMF_1.2]; rfl
theorem selS_12 {u : St} {n k : Nat} {h y : Int32} : (selS u n h y k).2.2.1 12 = u.2.2.1 12 := by
  unfold selS
  split
  · rfl
  · rw [fMF_12]; rfl
theorem sendM_2 {v : St} {n fe : Nat} : ∀ i, (sendM v n fe i).2 = v.2 := by
  intro i
  induction i with
  | zero => rfl
  | succ i ih =>
    simp only [sendM]
    split
    · exact ih
    · exact ih
theorem sendM_ne {v : St} {n fe c : Nat} (h : c ≠ 86) : ∀ i, (sendM v n fe i).1 c = v.1 c := by
  intro i
  induction i with
  | zero => rfl
  | succ i ih =>
    simp only [sendM]
    split
    · rw [sI_ne h]; exact ih
    · exact ih
theorem sendM_86 {v : St} {n fe : Nat} : ∀ i j, (sendM v n fe i).1 86 j = (if j < i ∧ v.1 86 j = nI n then (if v.1 85 (j * 5 + fe) ≤ v.2.2.1 15 then nI (2 * n + 1) else nI (2 * n + 2)) else v.1 86 j) := by
  intro i
  induction i with
  | zero => intro j; rw [if_neg (show ¬ (j < 0 ∧ v.1 86 j = nI n) from fun q => absurd q.1 (by omega))]; rfl
  | succ i ih =>
    intro j
    simp only [sendM]
    by_cases c : v.1 86 i = nI n
    · rw [if_pos c, sI_eq]
      show (if j = i then _ else _) = _
      by_cases hj : j = i
      · subst hj
        have h3 : j < j + 1 ∧ v.1 86 j = nI n := ⟨by omega, c⟩
        rw [if_pos rfl, if_pos h3]
      · rw [if_neg hj, ih j]
        by_cases h2 : j < i ∧ v.1 86 j = nI n
        · have h3 : j < i + 1 ∧ v.1 86 j = nI n := ⟨by omega, h2.2⟩
          rw [if_pos h2, if_pos h3]
        · have h3 : ¬ (j < i + 1 ∧ v.1 86 j = nI n) := fun q => h2 ⟨by omega, q.2⟩
          rw [if_neg h2, if_neg h3]
    · rw [if_neg c, ih j]
      by_cases h2 : j < i ∧ v.1 86 j = nI n
      · have h3 : j < i + 1 ∧ v.1 86 j = nI n := ⟨by omega, h2.2⟩
        rw [if_pos h2, if_pos h3]
      · have h3 : ¬ (j < i + 1 ∧ v.1 86 j = nI n) := fun q => by
          rcases Nat.lt_or_ge j i with z | z
          · exact h2 ⟨z, q.2⟩
          · exact c ((show j = i by omega) ▸ q.2)
        rw [if_neg h2, if_neg h3]
theorem gnF_2 {w : St} {t n k : Nat} : (gnF w t n k).2.2 = w.2.2 := by
  unfold gnF
  split
  · rfl
  · rw [show (sendM _ n _ k).2.2 = _ from congrArg Prod.snd (sendM_2 k)]; rfl
theorem lvl_small {n : Nat} {x : Int32} (hx : x ≤ 2) (hn : n < 7) (h : ¬ x ≤ lvlF n) : n < 3 := by
  rcases Nat.lt_or_ge n 3 with q | q
  · exact q
  · refine absurd ?_ h
    unfold lvlF
    rw [if_neg (by omega), if_pos q]
    exact hx
theorem gnF_nd {w : St} {t n k : Nat} {x y : Int32} (hx : x ≤ 2) (hn : n < 7) (h : ∀ i, i < k → ∃ j : Nat, j < 7 ∧ w.1 86 i = nI j) : ∀ i, i < k → ∃ j : Nat, j < 7 ∧ (gnF (selS w n x y k) t n k).1 86 i = nI j := by
  intro i hi
  unfold gnF
  split
  · have e : (sI (selS w n x y k) 81 (t * 7 + n) 1).1 86 = w.1 86 := by rw [sI_ne (by decide), selS_1]
    obtain ⟨j, hj, hj2⟩ := h i hi
    exact ⟨j, hj, by rw [← hj2, ← e]; rfl⟩
  · rename_i c
    have hl : ¬ x ≤ lvlF n := by
      intro q
      refine c ?_
      unfold selS
      rw [if_pos q]
      exact (by decide : ((-1 : Int32) < 0))
    have h3 := lvl_small hx hn hl
    rw [sendM_86]
    split
    · split
      · exact ⟨2 * n + 1, by omega, rfl⟩
      · exact ⟨2 * n + 2, by omega, rfl⟩
    · rw [sI_ne (by decide), sI_ne (by decide), sI_ne (by decide), selS_1]
      exact h i hi
def gwF (u : St) (t : Nat) (x y : Int32) (k : Nat) : Nat → St
  | 0 => fillF u 86 0 k
  | n + 1 => if n = 0 ∨ (sI (gwF u t x y k n) 81 (t * 7 + n) 0).1 81 (t * 7 + (n - 1) / 2) = 2 then gnF (selS (sI (gwF u t x y k n) 81 (t * 7 + n) 0) n x y k) t n k else sI (gwF u t x y k n) 81 (t * 7 + n) 0
def lsM (w : St) (t : Nat) : Nat → St
  | 0 => w
  | i + 1 => sL (lsM w t i) 87 i (w.2.1 87 i - w.2.1 84 (t * 7 + (w.1 86 i).toNatClampNeg))
def growM (u : St) (t : Nat) (x y : Int32) (k : Nat) : St := lsM (gwF u t x y k 7) t k
set_option maxHeartbeats 4000000 in
set_option maxRecDepth 100000 in
theorem m_M_grow {l : Launch} {D : va_G} {g : Ids} {ad : Nat → Nat} {u : St} (t : Nat) (x : Int32) (y : Int32) (k : Nat) (ht4 : t < 4) (hx2 : x ≤ 2) (hk16 : k ≤ 16) (hns : u.2.2.1 12 = nI k) : XMv l D g ad y_M_grow b_M_grow 6 (none) (rmN 4 107) [.ref (ad 75), .int (nI t), .int x, .int y] u (fun z => z = growM u t x y k) := fun sz => x_met (by decide) (Nat.le_of_ble_eq_true rfl) (fun p e s m below meth c hsz hx hb hr hml hown ht hlk hw ls hl => by
  have hA : ∀ q, s.heap.size ≤ q → AX ad sz q := fun q h => Or.inr (hsz ▸ h)
  have hl : lv_has ls 6 [(0, .ref (ad 75)), (1, .int (nI t)), (2, .int x), (3, .int y)] := hl
  refine lv_iconst (v := 0) hx hb d_M_grow_0 (by decide) ?_
  refine lv_istore (lv' := [(4, .int 0), (0, .ref (ad 75)), (1, .int (nI t)), (2, .int x), (3, .int y)]) hx hb d_M_grow_1 hl (by decide) rfl (fun ls hl => ?_)
  have L3 : ∀ (n3 : Nat) (i : Nat), i ≤ k → k - i < n3 → ∀ (H : Heap) (locs : List Loc), XH D g ad (AX ad sz) s s.heap H locs (fillF u 86 0 i) → ∀ ls : Array Slot, lv_has ls 6 [(4, .int (nI i)), (0, .ref (ad 75)), (1, .int (nI t)), (2, .int x), (3, .int y)] → W p l e (rmN 4 107) s m ([.ref (ad 75), .int (nI t), .int x, .int y] : List Value).toArray below meth c H locs 0 0 (MQ below (va_Qv (fun z => z = growM u t x y k) (XB D g ad sz) (AX ad sz)) ([.ref (ad 75), .int (nI t), .int x, .int y] : List Value).toArray s 0 0 (AX ad sz)) (F0 m 3 ls []) := by
    intro n3
    induction n3 with
    | zero => intro i h1 hz; exact absurd hz (by omega)
    | succ n3 ih3 =>
      intro i h1 hnL3 H locs hw ls hl
      refine lv_iload hx hb d_M_grow_3 (lv_at hl 0 rfl) ?_
      refine lv_aload_n hx hb d_M_grow_5 rfl (lv_at hl 1 rfl) ?_
      refine x_get (ci := 7) (k := 75) hx hb ht in_M hown hw (by decide) o_M rfl 14 (by decide) (ht _ w_500) rfl d_M_grow_6 ?_
      rw [show ((fillF u 86 0 i).2.2.1 12) = (nI k) from hns]
      refine lv_icmp_ge (tgt := 26) hx hb d_M_grow_9 (by decide) (fun c9 => ?_) (fun c9 => ?_)
      · have h9 : (k) ≤ (i) := (nI_leI (a := k) (b := i) (by omega) (by omega)).mp c9
        refine lv_iconst (v := 0) hx hb d_M_grow_26 (by decide) ?_
        refine lv_istore (lv' := [(4, .int 0), (0, .ref (ad 75)), (1, .int (nI t)), (2, .int x), (3, .int y)]) hx hb d_M_grow_27 hl (by decide) rfl (fun ls hl => ?_)
        have L29 : ∀ (n29 : Nat) (n : Nat) (w : St), n ≤ 7 → gwF u t x y k n = w → w.2.2.1 12 = nI k → (∀ i, i < k → ∃ j : Nat, j < 7 ∧ w.1 86 i = nI j) → 7 - n < n29 → ∀ (H : Heap) (locs : List Loc), XH D g ad (AX ad sz) s s.heap H locs w → ∀ ls : Array Slot, lv_has ls 6 [(4, .int (nI n)), (0, .ref (ad 75)), (1, .int (nI t)), (2, .int x), (3, .int y)] → W p l e (rmN 4 107) s m ([.ref (ad 75), .int (nI t), .int x, .int y] : List Value).toArray below meth c H locs 0 0 (MQ below (va_Qv (fun z => z = growM u t x y k) (XB D g ad sz) (AX ad sz)) ([.ref (ad 75), .int (nI t), .int x, .int y] : List Value).toArray s 0 0 (AX ad sz)) (F0 m 29 ls []) := by
          intro n29
          induction n29 with
          | zero => intro n w h2 hv hw12 hnd hz; exact absurd hz (by omega)
          | succ n29 ih29 =>
            intro n w h2 hv hw12 hnd hnL29 H locs hw ls hl
            refine lv_iload hx hb d_M_grow_29 (lv_at hl 0 rfl) ?_
            refine lv_bipush (v := 7) hx hb d_M_grow_31 (by decide) ?_
            refine lv_icmp_ge (tgt := 93) hx hb d_M_grow_33 (by decide) (fun c33 => ?_) (fun c33 => ?_)
            · have h33 : (7) ≤ (n) := (nI_leI (a := 7) (b := n) (by omega) (by omega)).mp c33
              refine lv_iconst (v := 0) hx hb d_M_grow_93 (by decide) ?_
              refine lv_istore (lv' := [(4, .int 0), (0, .ref (ad 75)), (1, .int (nI t)), (2, .int x), (3, .int y)]) hx hb d_M_grow_94 hl (by decide) rfl (fun ls hl => ?_)
              have L96 : ∀ (n96 : Nat) (i : Nat) (b : St), i ≤ k → lsM w t i = b → b.1 = w.1 → b.2.1 84 = w.2.1 84 → (∀ j, i ≤ j → b.2.1 87 j = w.2.1 87 j) → b.2.2 = w.2.2 → k - i < n96 → ∀ (H : Heap) (locs : List Loc), XH D g ad (AX ad sz) s s.heap H locs b → ∀ ls : Array Slot, lv_has ls 6 [(4, .int (nI i)), (0, .ref (ad 75)), (1, .int (nI t)), (2, .int x), (3, .int y)] → W p l e (rmN 4 107) s m ([.ref (ad 75), .int (nI t), .int x, .int y] : List Value).toArray below meth c H locs 0 0 (MQ below (va_Qv (fun z => z = growM u t x y k) (XB D g ad sz) (AX ad sz)) ([.ref (ad 75), .int (nI t), .int x, .int y] : List Value).toArray s 0 0 (AX ad sz)) (F0 m 96 ls []) := by
                intro n96
                induction n96 with
                | zero => intro i b h3 hv3 hb1 hb2 hb3 hb4 hz; exact absurd hz (by omega)
                | succ n96 ih96 =>
                  intro i b h3 hv3 hb1 hb2 hb3 hb4 hnL96 H locs hw ls hl
                  refine lv_iload hx hb d_M_grow_96 (lv_at hl 0 rfl) ?_
                  refine lv_aload_n hx hb d_M_grow_98 rfl (lv_at hl 1 rfl) ?_
                  refine x_get (ci := 7) (k := 75) hx hb ht in_M hown hw (by decide) o_M rfl 14 (by decide) (ht _ w_500) rfl d_M_grow_99 ?_
                  rw [show (b.2.2.1 12) = (nI k) from by rw [hb4]; exact hw12]
                  refine lv_icmp_ge (tgt := 138) hx hb d_M_grow_102 (by decide) (fun c102 => ?_) (fun c102 => ?_)
                  · have h102 : (k) ≤ (i) := (nI_leI (a := k) (b := i) (by omega) (by omega)).mp c102
                    exact x_vret hsz hx hb hr hlk hw (by unfold growM; rw [← hv3, show i = k by omega, ← hv, show n = 7 by omega]) d_M_grow_138
                  · have h102 : ¬ (k) ≤ (i) := fun hz9 => c102 ((nI_leI (a := k) (b := i) (by omega) (by omega)).mpr hz9)
                    obtain ⟨j, hj7, hij⟩ := hnd i (by omega)
                    refine lv_aload_n hx hb d_M_grow_105 rfl (lv_at hl 1 rfl) ?_
                    refine x_get (ci := 7) (k := 75) hx hb ht in_M hown hw (by decide) o_M rfl 13 (by decide) (ht _ w_499) rfl d_M_grow_106 ?_
                    refine lv_iload hx hb d_M_grow_109 (lv_at hl 0 rfl) ?_
                    refine lv_dup2_11 hx hb d_M_grow_111 rfl rfl ?_
                    refine x_lald (k := 87) hx hb hw (by decide) rfl (vin (N := 16) (by omega) rfl (by omega)) d_M_grow_112 ?_
                    rw [nI_clamp (n := i) (by omega)]
                    rw [show (b.2.1 87 i) = (w.2.1 87 i) from by rw [hb3 i (Nat.le_refl i)]]
                    refine lv_aload_n hx hb d_M_grow_113 rfl (lv_at hl 1 rfl) ?_
                    refine x_get (ci := 7) (k := 75) hx hb ht in_M hown hw (by decide) o_M rfl 9 (by decide) (ht _ w_495) rfl d_M_grow_114 ?_
                    refine lv_iload_n hx hb d_M_grow_117 rfl (lv_at hl 2 rfl) ?_
                    refine lv_bipush (v := 7) hx hb d_M_grow_118 (by decide) ?_
                    refine lv_imul hx hb d_M_grow_120 ?_
                    rw [show ((nI t) * 7) = (nI (t * 7)) from pk_mul _ _]
                    refine lv_aload_n hx hb d_M_grow_121 rfl (lv_at hl 1 rfl) ?_
                    refine x_get (ci := 7) (k := 75) hx hb ht in_M hown hw (by decide) o_M rfl 12 (by decide) (ht _ w_498) rfl d_M_grow_122 ?_
                    refine lv_iload hx hb d_M_grow_125 (lv_at hl 0 rfl) ?_
                    refine x_iald (k := 86) hx hb hw (by decide) rfl (vin (N := 16) (by omega) rfl (by omega)) d_M_grow_127 ?_
                    rw [nI_clamp (n := i) (by omega)]
                    rw [show (b.1 86 i) = (nI j) from by rw [hb1]; exact hij]
                    refine lv_iadd hx hb d_M_grow_128 ?_
                    rw [show ((nI (t * 7)) + (nI j)) = (nI (t * 7 + j)) from nI_add _ _]
                    refine x_lald (k := 84) hx hb hw (by decide) rfl (vin (N := 28) (by omega) rfl (by omega)) d_M_grow_129 ?_
                    rw [nI_clamp (n := t * 7 + j) (by omega)]
                    rw [show (b.2.1 84 (t * 7 + j)) = (w.2.1 84 (t * 7 + j)) from by rw [hb2]]
                    refine lv_lsub hx hb d_M_grow_130 ?_
                    refine x_last (k := 87) hx hb hw (by decide) rfl (vin (N := 16) (by omega) rfl (by omega)) d_M_grow_131 (fun H locs hw => ?_)
                    rw [nI_clamp (n := i) (by omega)] at hw
                    refine lv_iinc (v := (nI (i + 1))) (lv' := [(4, .int (nI (i + 1))), (0, .ref (ad 75)), (1, .int (nI t)), (2, .int x), (3, .int y)]) hx hb d_M_grow_132 hl (k := 0) rfl (nI_1 _) (by decide) rfl (fun ls hl => ?_)
                    refine lv_goto (tgt := 96) hx hb d_M_grow_135 (by decide) ?_
                    exact ih96 (i + 1) ((sL b 87 i ((w.2.1 87 i) - (w.2.1 84 (t * 7 + j))))) (by omega) (by rw [← hv3]; simp only [lsM]; rw [hij, nI_clamp (by omega)]) (hb1) (by rw [sL_ne (by decide)]; exact hb2) (fun j2 hj2 => by rw [sL_eq]; show vp_updL _ _ _ _ = _; unfold vp_updL; rw [if_neg (by omega)]; exact hb3 j2 (by omega)) (hb4) (by omega) _ _ hw ls (lv_sub hl [0, 1, 2, 3, 4] rfl)
              exact L96 ((k - 0) + 1) (0) (w) (by omega) (rfl) (rfl) (rfl) (fun _ _ => rfl) (rfl) (by omega) _ _ hw ls (lv_sub hl [0, 1, 2, 3, 4] rfl)
            · have h33 : ¬ (7) ≤ (n) := fun hz9 => c33 ((nI_leI (a := 7) (b := n) (by omega) (by omega)).mpr hz9)
              refine lv_iload_n hx hb d_M_grow_36 rfl (lv_at hl 2 rfl) ?_
              refine lv_bipush (v := 7) hx hb d_M_grow_37 (by decide) ?_
              refine lv_imul hx hb d_M_grow_39 ?_
              rw [show ((nI t) * 7) = (nI (t * 7)) from pk_mul _ _]
              refine lv_iload hx hb d_M_grow_40 (lv_at hl 0 rfl) ?_
              refine lv_iconst (v := 1) hx hb d_M_grow_42 (by decide) ?_
              refine lv_isub hx hb d_M_grow_43 ?_
              refine lv_iconst (v := 2) hx hb d_M_grow_44 (by decide) ?_
              refine lv_idiv hx hb d_M_grow_45 (by decide) ?_
              rw [show (((nI n) - 1) / 2) = (nI ((n - 1) / 2)) from half_eq n (by omega)]
              refine lv_iadd hx hb d_M_grow_46 ?_
              rw [show ((nI (t * 7)) + (nI ((n - 1) / 2))) = (nI (t * 7 + ((n - 1) / 2))) from nI_add _ _]
              refine lv_istore (lv' := [(5, .int (nI (t * 7 + ((n - 1) / 2)))), (4, .int (nI n)), (0, .ref (ad 75)), (1, .int (nI t)), (2, .int x), (3, .int y)]) hx hb d_M_grow_47 hl (by decide) rfl (fun ls hl => ?_)
              refine lv_aload_n hx hb d_M_grow_49 rfl (lv_at hl 2 rfl) ?_
              refine x_get (ci := 7) (k := 75) hx hb ht in_M hown hw (by decide) o_M rfl 6 (by decide) (ht _ w_492) rfl d_M_grow_50 ?_
              refine lv_iload_n hx hb d_M_grow_53 rfl (lv_at hl 3 rfl) ?_
              refine lv_bipush (v := 7) hx hb d_M_grow_54 (by decide) ?_
              refine lv_imul hx hb d_M_grow_56 ?_
              rw [show ((nI t) * 7) = (nI (t * 7)) from pk_mul _ _]
              refine lv_iload hx hb d_M_grow_57 (lv_at hl 1 rfl) ?_
              refine lv_iadd hx hb d_M_grow_59 ?_
              rw [show ((nI (t * 7)) + (nI n)) = (nI (t * 7 + n)) from nI_add _ _]
              refine lv_iconst (v := 0) hx hb d_M_grow_60 (by decide) ?_
              refine x_iast (k := 81) hx hb hw (by decide) rfl (vin (N := 28) (by omega) rfl (by omega)) d_M_grow_61 (fun H locs hw => ?_)
              rw [nI_clamp (n := t * 7 + n) (by omega)] at hw
              refine lv_iload hx hb d_M_grow_62 (lv_at hl 1 rfl) ?_
              refine lv_if_eq (tgt := 78) hx hb d_M_grow_64 (by decide) (fun c64 => ?_) (fun c64 => ?_)
              · have h64 : (n) = (0) := (nI_eq (a := n) (b := 0) (by omega) (by omega)).mp c64
                refine lv_aload_n hx hb d_M_grow_78 rfl (lv_at hl 2 rfl) ?_
                refine lv_iload_n hx hb d_M_grow_79 rfl (lv_at hl 3 rfl) ?_
                refine lv_iload hx hb d_M_grow_80 (lv_at hl 1 rfl) ?_
                refine lv_iload_n hx hb d_M_grow_82 rfl (lv_at hl 4 rfl) ?_
                refine lv_iload_n hx hb d_M_grow_83 rfl (lv_at hl 5 rfl) ?_
                refine x_cv (x_runV (na := 4) (k := 75) (As := [.int (nI t), .int (nI n), .int x, .int y]) (rest := []) (ci := 7) ⟨hx, hb, hml, hown, ht⟩ (m_M_growNode (u := (sI w 81 (t * 7 + n) 0)) t n x y k ht4 (by omega) hk16 hw12 _) w_598 w_600 s_17 w_9 w_601 (by decide +kernel) ⟨rfl, rfl, by decide, by decide⟩ hw (by decide) o_M rfl rfl hl.1 rfl (Nat.le_of_ble_eq_true rfl) d_M_grow_84 ⟨Nat.zero_le _, Nat.zero_le _⟩) hw hA (fun u84 H locs hp hw => ?_)
                have hu := hp.symm
                subst hu
                refine lv_iinc (v := (nI (n + 1))) (lv' := [(4, .int (nI (n + 1))), (5, .int (nI (t * 7 + ((n - 1) / 2)))), (0, .ref (ad 75)), (1, .int (nI t)), (2, .int x), (3, .int y)]) hx hb d_M_grow_87 hl (k := 1) rfl (nI_1 _) (by decide) rfl (fun ls hl => ?_)
                refine lv_goto (tgt := 29) hx hb d_M_grow_90 (by decide) ?_
                exact ih29 (n + 1) ((gnF (selS (sI w 81 (t * 7 + n) 0) n x y k) t n k)) (by omega) (by rw [← hv]; simp only [gwF]; rw [hv]; first | (rw [if_pos (Or.inl h64)]; done) | (rw [if_pos (Or.inr c75)]; done) | (rw [if_neg (fun q => q.elim h64 c75)]; done)) (by first | exact hw12 | (rw [gnF_2, selS_12]; exact hw12)) (by first | (intro i hi; rw [sI_ne (by decide)]; exact hnd i hi) | exact gnF_nd hx2 (by omega) (fun i hi => by rw [sI_ne (by decide)]; exact hnd i hi)) (by omega) _ _ hw ls (lv_sub hl [0, 2, 3, 4, 5] rfl)
              · have h64 : ¬ (n) = (0) := fun hz9 => c64 ((nI_eq (a := n) (b := 0) (by omega) (by omega)).mpr hz9)
                refine lv_aload_n hx hb d_M_grow_67 rfl (lv_at hl 2 rfl) ?_
                refine x_get (ci := 7) (k := 75) hx hb ht in_M hown hw (by decide) o_M rfl 6 (by decide) (ht _ w_492) rfl d_M_grow_68 ?_
                refine lv_iload hx hb d_M_grow_71 (lv_at hl 0 rfl) ?_
                refine x_iald (k := 81) hx hb hw (by decide) rfl (vin (N := 28) (by omega) rfl (by omega)) d_M_grow_73 ?_
                rw [nI_clamp (n := t * 7 + ((n - 1) / 2)) (by omega)]
                refine lv_iconst (v := 2) hx hb d_M_grow_74 (by decide) ?_
                refine lv_icmp_ne (tgt := 87) hx hb d_M_grow_75 (by decide) (fun c75 => ?_) (fun c75 => ?_)
                · refine lv_iinc (v := (nI (n + 1))) (lv' := [(4, .int (nI (n + 1))), (5, .int (nI (t * 7 + ((n - 1) / 2)))), (0, .ref (ad 75)), (1, .int (nI t)), (2, .int x), (3, .int y)]) hx hb d_M_grow_87 hl (k := 1) rfl (nI_1 _) (by decide) rfl (fun ls hl => ?_)
                  refine lv_goto (tgt := 29) hx hb d_M_grow_90 (by decide) ?_
                  exact ih29 (n + 1) ((sI w 81 (t * 7 + n) 0)) (by omega) (by rw [← hv]; simp only [gwF]; rw [hv]; first | (rw [if_pos (Or.inl h64)]; done) | (rw [if_pos (Or.inr c75)]; done) | (rw [if_neg (fun q => q.elim h64 c75)]; done)) (by first | exact hw12 | (rw [gnF_2, selS_12]; exact hw12)) (by first | (intro i hi; rw [sI_ne (by decide)]; exact hnd i hi) | exact gnF_nd hx2 (by omega) (fun i hi => by rw [sI_ne (by decide)]; exact hnd i hi)) (by omega) _ _ hw ls (lv_sub hl [0, 2, 3, 4, 5] rfl)
                · refine lv_aload_n hx hb d_M_grow_78 rfl (lv_at hl 2 rfl) ?_
                  refine lv_iload_n hx hb d_M_grow_79 rfl (lv_at hl 3 rfl) ?_
                  refine lv_iload hx hb d_M_grow_80 (lv_at hl 1 rfl) ?_
                  refine lv_iload_n hx hb d_M_grow_82 rfl (lv_at hl 4 rfl) ?_
                  refine lv_iload_n hx hb d_M_grow_83 rfl (lv_at hl 5 rfl) ?_
                  refine x_cv (x_runV (na := 4) (k := 75) (As := [.int (nI t), .int (nI n), .int x, .int y]) (rest := []) (ci := 7) ⟨hx, hb, hml, hown, ht⟩ (m_M_growNode (u := (sI w 81 (t * 7 + n) 0)) t n x y k ht4 (by omega) hk16 hw12 _) w_598 w_600 s_17 w_9 w_601 (by decide +kernel) ⟨rfl, rfl, by decide, by decide⟩ hw (by decide) o_M rfl rfl hl.1 rfl (Nat.le_of_ble_eq_true rfl) d_M_grow_84 ⟨Nat.zero_le _, Nat.zero_le _⟩) hw hA (fun u84 H locs hp hw => ?_)
                  have hu := hp.symm
                  subst hu
                  refine lv_iinc (v := (nI (n + 1))) (lv' := [(4, .int (nI (n + 1))), (5, .int (nI (t * 7 + ((n - 1) / 2)))), (0, .ref (ad 75)), (1, .int (nI t)), (2, .int x), (3, .int y)]) hx hb d_M_grow_87 hl (k := 1) rfl (nI_1 _) (by decide) rfl (fun ls hl => ?_)
                  refine lv_goto (tgt := 29) hx hb d_M_grow_90 (by decide) ?_
                  exact ih29 (n + 1) ((gnF (selS (sI w 81 (t * 7 + n) 0) n x y k) t n k)) (by omega) (by rw [← hv]; simp only [gwF]; rw [hv]; first | (rw [if_pos (Or.inl h64)]; done) | (rw [if_pos (Or.inr c75)]; done) | (rw [if_neg (fun q => q.elim h64 c75)]; done)) (by first | exact hw12 | (rw [gnF_2, selS_12]; exact hw12)) (by first | (intro i hi; rw [sI_ne (by decide)]; exact hnd i hi) | exact gnF_nd hx2 (by omega) (fun i hi => by rw [sI_ne (by decide)]; exact hnd i hi)) (by omega) _ _ hw ls (lv_sub hl [0, 2, 3, 4, 5] rfl)
        exact L29 ((7 - 0) + 1) (0) ((fillF u 86 0 i)) (by omega) (by rw [show i = k by omega]; rfl) (hns) (fun j hj => ⟨0, by omega, fill_in (by omega)⟩) (by omega) _ _ hw ls (lv_sub hl [0, 1, 2, 3, 4] rfl)
      · have h9 : ¬ (k) ≤ (i) := fun hz9 => c9 ((nI_leI (a := k) (b := i) (by omega) (by omega)).mpr hz9)
        refine lv_aload_n hx hb d_M_grow_12 rfl (lv_at hl 1 rfl) ?_
        refine x_get (ci := 7) (k := 75) hx hb ht in_M hown hw (by decide) o_M rfl 12 (by decide) (ht _ w_498) rfl d_M_grow_13 ?_
        refine lv_iload hx hb d_M_grow_16 (lv_at hl 0 rfl) ?_
        refine lv_iconst (v := 0) hx hb d_M_grow_18 (by decide) ?_
        refine x_iast (k := 86) hx hb hw (by decide) rfl (vin (N := 16) (by omega) rfl (by omega)) d_M_grow_19 (fun H locs hw => ?_)
        rw [nI_clamp (n := i) (by omega)] at hw
        refine lv_iinc (v := (nI (i + 1))) (lv' := [(4, .int (nI (i + 1))), (0, .ref (ad 75)), (1, .int (nI t)), (2, .int x), (3, .int y)]) hx hb d_M_grow_20 hl (k := 0) rfl (nI_1 _) (by decide) rfl (fun ls hl => ?_)
        refine lv_goto (tgt := 3) hx hb d_M_grow_23 (by decide) ?_
        exact ih3 (i + 1) (by omega) (by omega) _ _ (by rw [fillF_s] at hw; exact hw) ls (lv_sub hl [0, 1, 2, 3, 4] rfl)
  exact L3 ((k - 0) + 1) (0) (by omega) (by omega) _ _ (by rw [fillF_0]; exact hw) ls (lv_sub hl [0, 1, 2, 3, 4] rfl))
