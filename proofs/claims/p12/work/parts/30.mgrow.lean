def lvlF (n : Nat) : Int32 := if n = 0 then 0 else if 3 ≤ n then 2 else 1
def selS (u : St) (n : Nat) (h y : Int32) (k : Nat) : St := if h ≤ lvlF n then sF u 14 (-1) else fMF (sF u 14 (-1)) (nI n) y k 5
def cnN (nd : Nat → Int32) (x : Int32) : Nat → Nat
  | 0 => 0
  | t + 1 => if nd t = x then cnN nd x t + 1 else cnN nd x t
theorem cnN_le (nd : Nat → Int32) (x : Int32) : ∀ t, cnN nd x t ≤ t := by
  intro t
  induction t with
  | zero => exact Nat.le_refl 0
  | succ t ih =>
    simp only [cnN]
    split <;> omega
def sendM (v : St) (n fe : Nat) : Nat → St
  | 0 => v
  | i + 1 => if v.1 86 i = nI n then sI (sendM v n fe i) 86 i (if v.1 85 (i * 5 + fe) ≤ v.2.2.1 15 then nI (2 * n + 1) else nI (2 * n + 2)) else sendM v n fe i
def gnF (w : St) (t n k : Nat) : St := if w.2.2.1 14 < 0 then sL (sI w 81 (t * 7 + n) 1) 84 (t * 7 + n) (nsF (w.2.1 87) (w.1 86) (nI n) k / (nI (shareN (cnN (w.1 86) (nI n) k))).toInt64) else
  sendM (sI (sI (sI w 81 (t * 7 + n) 2) 82 (t * 7 + n) (w.2.2.1 14)) 83 (t * 7 + n) (w.2.2.1 15)) n (w.2.2.1 14).toNatClampNeg k
theorem stM_12 {b : St} {x y : Int32} {f k t : Nat} : (stM b x y f k t).2.2.1 12 = b.2.2.1 12 := by
  unfold stM
  repeat' split
  all_goals rfl
theorem tMF_12 {a : St} {x y : Int32} {f k : Nat} : ∀ t, (tMF a x y f k t).2.2.1 12 = a.2.2.1 12 := by
  intro t
  induction t with
  | zero => rfl
  | succ t ih => simp only [tMF]; rw [stM_12, ih]
theorem fMF_12 {u : St} {x y : Int32} {k : Nat} : ∀ {f : Nat}, (fMF u x y k f).2.2.1 12 = u.2.2.1 12 := by
  intro f
  induction f with
  | zero => rfl
  | succ f ih => simp only [fMF]; rw [tMF_12, ih]
theorem stM_14 {b : St} {x y : Int32} {f k t : Nat} : (stM b x y f k t).2.2.1 14 = b.2.2.1 14 ∨ (stM b x y f k t).2.2.1 14 = nI f := by
  unfold stM
  repeat' split
  all_goals first | exact Or.inl rfl | exact Or.inr rfl
theorem tMF_14 {a : St} {x y : Int32} {f k : Nat} : ∀ t, (tMF a x y f k t).2.2.1 14 = a.2.2.1 14 ∨ (tMF a x y f k t).2.2.1 14 = nI f := by
  intro t
  induction t with
  | zero => exact Or.inl rfl
  | succ t ih =>
    simp only [tMF]
    rcases stM_14 (b := tMF a x y f k t) (x := x) (y := y) (f := f) (k := k) (t := t) with h | h
    · rw [h]; exact ih
    · exact Or.inr h
theorem fMF_14 (u : St) (x y : Int32) (k : Nat) : ∀ f, f ≤ 5 → ((fMF u x y k f).2.2.1 14 = -1 ∨ ∃ j : Nat, j < 5 ∧ (fMF u x y k f).2.2.1 14 = nI j) := by
  intro f
  induction f with
  | zero => intro _; exact Or.inl rfl
  | succ f ih =>
    intro hf
    simp only [fMF]
    rcases tMF_14 (a := fMF u x y k f) (x := x) (y := y) (f := f) (k := k) 200 with h | h
    · rw [h]; exact ih (by omega)
    · exact Or.inr ⟨f, by omega, h⟩
set_option maxHeartbeats 4000000 in
set_option maxRecDepth 100000 in
theorem m_M_growNode {l : Launch} {D : va_G} {g : Ids} {ad : Nat → Nat} {u : St} (t : Nat) (n : Nat) (h : Int32) (y : Int32) (k : Nat) (ht4 : t < 4) (hn7 : n < 7) (hk16 : k ≤ 16) (hns : u.2.2.1 12 = nI k) : XMv l D g ad y_M_growNode b_M_growNode 11 (none) (rmN 3 77) [.ref (ad 75), .int (nI t), .int (nI n), .int h, .int y] u (fun z => z = gnF (selS u n h y k) t n k) := fun sz => x_met (by decide) (Nat.le_of_ble_eq_true rfl) (fun p e s m below meth c hsz hx hb hr hml hown ht hlk hw ls hl => by
  have hA : ∀ q, s.heap.size ≤ q → AX ad sz q := fun q h => Or.inr (hsz ▸ h)
  have hl : lv_has ls 11 [(0, .ref (ad 75)), (1, .int (nI t)), (2, .int (nI n)), (3, .int h), (4, .int y)] := hl
  have K46 : ∀ (w : St), selS u n h y k = w → (w.2.2.1 14 = -1 ∨ ∃ f : Nat, f < 5 ∧ w.2.2.1 14 = nI f) → w.2.2.1 12 = nI k → ∀ (H : Heap) (locs : List Loc), XH D g ad (AX ad sz) s s.heap H locs w → ∀ ls : Array Slot, lv_has ls 11 [(0, .ref (ad 75)), (1, .int (nI t)), (2, .int (nI n)), (3, .int h), (4, .int y), (5, .int (nI (t * 7 + n)))] → W p l e (rmN 3 77) s m ([.ref (ad 75), .int (nI t), .int (nI n), .int h, .int y] : List Value).toArray below meth c H locs 0 0 (MQ below (va_Qv (fun z => z = gnF (selS u n h y k) t n k) (XB D g ad sz) (AX ad sz)) ([.ref (ad 75), .int (nI t), .int (nI n), .int h, .int y] : List Value).toArray s 0 0 (AX ad sz)) (F0 m 46 ls []) := by
    intro w hsel hF h12 H locs hw ls hl
    refine lv_aload_n hx hb d_M_growNode_46 rfl (lv_at hl 0 rfl) ?_
    refine x_get (ci := 7) (k := 75) hx hb ht in_M hown hw (by decide) o_M rfl 19 (by decide) (ht _ w_505) rfl d_M_growNode_47 ?_
    refine lv_if_lt (tgt := 154) hx hb d_M_growNode_50 (by decide) (fun c50 => ?_) (fun c50 => ?_)
    · refine lv_lconst (v := 0) hx hb d_M_growNode_154 (by decide) ?_
      refine lv_lstore (lv' := [(7, .long 0), (0, .ref (ad 75)), (1, .int (nI t)), (2, .int (nI n)), (3, .int h), (4, .int y), (5, .int (nI (t * 7 + n)))]) hx hb d_M_growNode_155 hl (by decide) rfl (fun ls hl => ?_)
      refine lv_iconst (v := 0) hx hb d_M_growNode_157 (by decide) ?_
      refine lv_istore (lv' := [(9, .int 0), (7, .long 0), (0, .ref (ad 75)), (1, .int (nI t)), (2, .int (nI n)), (3, .int h), (4, .int y), (5, .int (nI (t * 7 + n)))]) hx hb d_M_growNode_158 hl (by decide) rfl (fun ls hl => ?_)
      refine lv_iconst (v := 0) hx hb d_M_growNode_160 (by decide) ?_
      refine lv_istore (lv' := [(10, .int 0), (9, .int 0), (7, .long 0), (0, .ref (ad 75)), (1, .int (nI t)), (2, .int (nI n)), (3, .int h), (4, .int y), (5, .int (nI (t * 7 + n)))]) hx hb d_M_growNode_161 hl (by decide) rfl (fun ls hl => ?_)
      have L163 : ∀ (n163 : Nat) (i : Nat), i ≤ k → k - i < n163 → ∀ (H : Heap) (locs : List Loc), XH D g ad (AX ad sz) s s.heap H locs w → ∀ ls : Array Slot, lv_has ls 11 [(10, .int (nI i)), (9, .int (nI (cnN (w.1 86) (nI n) i))), (7, .long (nsF (w.2.1 87) (w.1 86) (nI n) i)), (0, .ref (ad 75)), (1, .int (nI t)), (2, .int (nI n)), (3, .int h), (4, .int y), (5, .int (nI (t * 7 + n)))] → W p l e (rmN 3 77) s m ([.ref (ad 75), .int (nI t), .int (nI n), .int h, .int y] : List Value).toArray below meth c H locs 0 0 (MQ below (va_Qv (fun z => z = gnF (selS u n h y k) t n k) (XB D g ad sz) (AX ad sz)) ([.ref (ad 75), .int (nI t), .int (nI n), .int h, .int y] : List Value).toArray s 0 0 (AX ad sz)) (F0 m 163 ls []) := by
        intro n163
        induction n163 with
        | zero => intro i hi hz; exact absurd hz (by omega)
        | succ n163 ih163 =>
          intro i hi hnL163 H locs hw ls hl
          refine lv_iload hx hb d_M_growNode_163 (lv_at hl 0 rfl) ?_
          refine lv_aload_n hx hb d_M_growNode_165 rfl (lv_at hl 3 rfl) ?_
          refine x_get (ci := 7) (k := 75) hx hb ht in_M hown hw (by decide) o_M rfl 14 (by decide) (ht _ w_500) rfl d_M_growNode_166 ?_
          rw [show (w.2.2.1 12) = (nI k) from h12]
          refine lv_icmp_ge (tgt := 207) hx hb d_M_growNode_169 (by decide) (fun c169 => ?_) (fun c169 => ?_)
          · have h169 : (k) ≤ (i) := (nI_leI (a := k) (b := i) (by omega) (by omega)).mp c169
            refine lv_aload_n hx hb d_M_growNode_207 rfl (lv_at hl 3 rfl) ?_
            refine x_get (ci := 7) (k := 75) hx hb ht in_M hown hw (by decide) o_M rfl 6 (by decide) (ht _ w_492) rfl d_M_growNode_208 ?_
            refine lv_iload hx hb d_M_growNode_211 (lv_at hl 8 rfl) ?_
            refine lv_iconst (v := 1) hx hb d_M_growNode_213 (by decide) ?_
            refine x_iast (k := 81) hx hb hw (by decide) rfl (vin (N := 28) (by omega) rfl (by omega)) d_M_growNode_214 (fun H locs hw => ?_)
            rw [nI_clamp (n := t * 7 + n) (by omega)] at hw
            refine lv_aload_n hx hb d_M_growNode_215 rfl (lv_at hl 3 rfl) ?_
            refine x_get (ci := 7) (k := 75) hx hb ht in_M hown hw (by decide) o_M rfl 9 (by decide) (ht _ w_495) rfl d_M_growNode_216 ?_
            refine lv_iload hx hb d_M_growNode_219 (lv_at hl 8 rfl) ?_
            refine lv_lload hx hb d_M_growNode_221 (lv_at hl 2 rfl) ?_
            refine lv_iload hx hb d_M_growNode_223 (lv_at hl 1 rfl) ?_
            refine x_ci (x_runS (na := 1) (As := [.int (nI (cnN (w.1 86) (nI n) i))]) (rest := [.long (nsF (w.2.1 87) (w.1 86) (nI n) i), .int (nI (t * 7 + n)), .ref (ad 84)]) ⟨hx, hb, hml, hown, ht⟩ (m_M_share (cnN (w.1 86) (nI n) i) (by have := cnN_le (w.1 86) (nI n) i; omega) _) w_610 w_611 w_9 w_612 (by decide +kernel) ⟨rfl, rfl, by decide, by decide⟩ hw rfl hl.1 rfl (Nat.le_of_ble_eq_true rfl) d_M_growNode_225 ⟨Nat.zero_le _, Nat.zero_le _⟩) hw hA (fun v225 u225 H locs hp hw => ?_)
            obtain ⟨hv9, hu⟩ := hp
            subst hv9
            have hu := hu.symm
            subst hu
            refine lv_i2l (v := (nI (shareN (cnN (w.1 86) (nI n) i))).toInt64) hx hb d_M_growNode_228 rfl ?_
            refine lv_ldiv hx hb d_M_growNode_229 (share_ne _) ?_
            refine x_last (k := 84) hx hb hw (by decide) rfl (vin (N := 28) (by omega) rfl (by omega)) d_M_growNode_230 (fun H locs hw => ?_)
            rw [nI_clamp (n := t * 7 + n) (by omega)] at hw
            exact x_vret hsz hx hb hr hlk hw (by rw [hsel]; unfold gnF; rw [if_pos c50, show i = k by omega]) d_M_growNode_231
          · have h169 : ¬ (k) ≤ (i) := fun hz9 => c169 ((nI_leI (a := k) (b := i) (by omega) (by omega)).mpr hz9)
            refine lv_aload_n hx hb d_M_growNode_172 rfl (lv_at hl 3 rfl) ?_
            refine x_get (ci := 7) (k := 75) hx hb ht in_M hown hw (by decide) o_M rfl 12 (by decide) (ht _ w_498) rfl d_M_growNode_173 ?_
            refine lv_iload hx hb d_M_growNode_176 (lv_at hl 0 rfl) ?_
            refine x_iald (k := 86) hx hb hw (by decide) rfl (vin (N := 16) (by omega) rfl (by omega)) d_M_growNode_178 ?_
            rw [nI_clamp (n := i) (by omega)]
            refine lv_iload_n hx hb d_M_growNode_179 rfl (lv_at hl 5 rfl) ?_
            refine lv_icmp_eq (tgt := 186) hx hb d_M_growNode_180 (by decide) (fun c180 => ?_) (fun c180 => ?_)
            · refine lv_lload hx hb d_M_growNode_186 (lv_at hl 2 rfl) ?_
              refine lv_aload_n hx hb d_M_growNode_188 rfl (lv_at hl 3 rfl) ?_
              refine x_get (ci := 7) (k := 75) hx hb ht in_M hown hw (by decide) o_M rfl 13 (by decide) (ht _ w_499) rfl d_M_growNode_189 ?_
              refine lv_iload hx hb d_M_growNode_192 (lv_at hl 0 rfl) ?_
              refine x_lald (k := 87) hx hb hw (by decide) rfl (vin (N := 16) (by omega) rfl (by omega)) d_M_growNode_194 ?_
              rw [nI_clamp (n := i) (by omega)]
              refine lv_ladd hx hb d_M_growNode_195 ?_
              refine lv_lstore (lv' := [(7, .long ((nsF (w.2.1 87) (w.1 86) (nI n) i) + (w.2.1 87 i))), (10, .int (nI i)), (9, .int (nI (cnN (w.1 86) (nI n) i))), (0, .ref (ad 75)), (1, .int (nI t)), (2, .int (nI n)), (3, .int h), (4, .int y), (5, .int (nI (t * 7 + n)))]) hx hb d_M_growNode_196 hl (by decide) rfl (fun ls hl => ?_)
              refine lv_iinc (v := (nI (cnN (w.1 86) (nI n) i + 1))) (lv' := [(9, .int (nI (cnN (w.1 86) (nI n) i + 1))), (7, .long ((nsF (w.2.1 87) (w.1 86) (nI n) i) + (w.2.1 87 i))), (10, .int (nI i)), (0, .ref (ad 75)), (1, .int (nI t)), (2, .int (nI n)), (3, .int h), (4, .int y), (5, .int (nI (t * 7 + n)))]) hx hb d_M_growNode_198 hl (k := 2) rfl (nI_1 _) (by decide) rfl (fun ls hl => ?_)
              refine lv_iinc (v := (nI (i + 1))) (lv' := [(10, .int (nI (i + 1))), (9, .int (nI (cnN (w.1 86) (nI n) i + 1))), (7, .long ((nsF (w.2.1 87) (w.1 86) (nI n) i) + (w.2.1 87 i))), (0, .ref (ad 75)), (1, .int (nI t)), (2, .int (nI n)), (3, .int h), (4, .int y), (5, .int (nI (t * 7 + n)))]) hx hb d_M_growNode_201 hl (k := 2) rfl (nI_1 _) (by decide) rfl (fun ls hl => ?_)
              refine lv_goto (tgt := 163) hx hb d_M_growNode_204 (by decide) ?_
              exact ih163 (i + 1) (by omega) (by omega) _ _ hw ls (by rw [← (show ((nsF (w.2.1 87) (w.1 86) (nI n) i) + (w.2.1 87 i)) = (nsF (w.2.1 87) (w.1 86) (nI n) (i + 1)) from (by simp only [nsF]; first | rw [if_pos c180] | rw [if_neg c180])), ← (show (nI (cnN (w.1 86) (nI n) i + 1)) = (nI (cnN (w.1 86) (nI n) (i + 1))) from (by simp only [cnN]; first | rw [if_pos c180] | rw [if_neg c180]))]; exact lv_sub hl [0, 1, 2, 3, 4, 5, 6, 7, 8] rfl)
            · refine lv_goto (tgt := 201) hx hb d_M_growNode_183 (by decide) ?_
              refine lv_iinc (v := (nI (i + 1))) (lv' := [(10, .int (nI (i + 1))), (9, .int (nI (cnN (w.1 86) (nI n) i))), (7, .long (nsF (w.2.1 87) (w.1 86) (nI n) i)), (0, .ref (ad 75)), (1, .int (nI t)), (2, .int (nI n)), (3, .int h), (4, .int y), (5, .int (nI (t * 7 + n)))]) hx hb d_M_growNode_201 hl (k := 0) rfl (nI_1 _) (by decide) rfl (fun ls hl => ?_)
              refine lv_goto (tgt := 163) hx hb d_M_growNode_204 (by decide) ?_
              exact ih163 (i + 1) (by omega) (by omega) _ _ hw ls (by rw [← (show (nsF (w.2.1 87) (w.1 86) (nI n) i) = (nsF (w.2.1 87) (w.1 86) (nI n) (i + 1)) from (by simp only [nsF]; first | rw [if_pos c180] | rw [if_neg c180])), ← (show (nI (cnN (w.1 86) (nI n) i)) = (nI (cnN (w.1 86) (nI n) (i + 1))) from (by simp only [cnN]; first | rw [if_pos c180] | rw [if_neg c180]))]; exact lv_sub hl [0, 1, 2, 3, 4, 5, 6, 7, 8] rfl)
      exact L163 ((k - 0) + 1) (0) (by omega) (by omega) _ _ hw ls (lv_sub hl [0, 1, 2, 3, 4, 5, 6, 7, 8] rfl)
    · obtain ⟨fe, hfe5, hfe⟩ : ∃ f : Nat, f < 5 ∧ w.2.2.1 14 = nI f := hF.resolve_left (fun q => c50 (by rw [q]; decide))
      refine lv_aload_n hx hb d_M_growNode_53 rfl (lv_at hl 0 rfl) ?_
      refine x_get (ci := 7) (k := 75) hx hb ht in_M hown hw (by decide) o_M rfl 6 (by decide) (ht _ w_492) rfl d_M_growNode_54 ?_
      refine lv_iload hx hb d_M_growNode_57 (lv_at hl 5 rfl) ?_
      refine lv_iconst (v := 2) hx hb d_M_growNode_59 (by decide) ?_
      refine x_iast (k := 81) hx hb hw (by decide) rfl (vin (N := 28) (by omega) rfl (by omega)) d_M_growNode_60 (fun H locs hw => ?_)
      rw [nI_clamp (n := t * 7 + n) (by omega)] at hw
      refine lv_aload_n hx hb d_M_growNode_61 rfl (lv_at hl 0 rfl) ?_
      refine x_get (ci := 7) (k := 75) hx hb ht in_M hown hw (by decide) o_M rfl 7 (by decide) (ht _ w_493) rfl d_M_growNode_62 ?_
      refine lv_iload hx hb d_M_growNode_65 (lv_at hl 5 rfl) ?_
      refine lv_aload_n hx hb d_M_growNode_67 rfl (lv_at hl 0 rfl) ?_
      refine x_get (ci := 7) (k := 75) hx hb ht in_M hown hw (by decide) o_M rfl 19 (by decide) (ht _ w_505) rfl d_M_growNode_68 ?_
      rw [show ((sI w 81 (t * 7 + n) 2).2.2.1 14) = (nI fe) from hfe]
      refine x_iast (k := 82) hx hb hw (by decide) rfl (vin (N := 28) (by omega) rfl (by omega)) d_M_growNode_71 (fun H locs hw => ?_)
      rw [nI_clamp (n := t * 7 + n) (by omega)] at hw
      refine lv_aload_n hx hb d_M_growNode_72 rfl (lv_at hl 0 rfl) ?_
      refine x_get (ci := 7) (k := 75) hx hb ht in_M hown hw (by decide) o_M rfl 8 (by decide) (ht _ w_494) rfl d_M_growNode_73 ?_
      refine lv_iload hx hb d_M_growNode_76 (lv_at hl 5 rfl) ?_
      refine lv_aload_n hx hb d_M_growNode_78 rfl (lv_at hl 0 rfl) ?_
      refine x_get (ci := 7) (k := 75) hx hb ht in_M hown hw (by decide) o_M rfl 20 (by decide) (ht _ w_506) rfl d_M_growNode_79 ?_
      rw [show ((sI (sI w 81 (t * 7 + n) 2) 82 (t * 7 + n) (nI fe)).2.2.1 15) = (w.2.2.1 15) from rfl]
      refine x_iast (k := 83) hx hb hw (by decide) rfl (vin (N := 28) (by omega) rfl (by omega)) d_M_growNode_82 (fun H locs hw => ?_)
      rw [nI_clamp (n := t * 7 + n) (by omega)] at hw
      refine lv_iconst (v := 0) hx hb d_M_growNode_83 (by decide) ?_
      refine lv_istore (lv' := [(7, .int 0), (0, .ref (ad 75)), (1, .int (nI t)), (2, .int (nI n)), (3, .int h), (4, .int y), (5, .int (nI (t * 7 + n)))]) hx hb d_M_growNode_84 hl (by decide) rfl (fun ls hl => ?_)
      have L86 : ∀ (n86 : Nat) (i : Nat) (b : St), i ≤ k → sendM (sI (sI (sI w 81 (t * 7 + n) 2) 82 (t * 7 + n) (nI fe)) 83 (t * 7 + n) (w.2.2.1 15)) n fe i = b → (∀ j, j ≠ 86 → b.1 j = ((sI (sI (sI w 81 (t * 7 + n) 2) 82 (t * 7 + n) (nI fe)) 83 (t * 7 + n) (w.2.2.1 15))).1 j) → (∀ j, i ≤ j → b.1 86 j = w.1 86 j) → b.2 = w.2 → k - i < n86 → ∀ (H : Heap) (locs : List Loc), XH D g ad (AX ad sz) s s.heap H locs b → ∀ ls : Array Slot, lv_has ls 11 [(7, .int (nI i)), (0, .ref (ad 75)), (1, .int (nI t)), (2, .int (nI n)), (3, .int h), (4, .int y), (5, .int (nI (t * 7 + n)))] → W p l e (rmN 3 77) s m ([.ref (ad 75), .int (nI t), .int (nI n), .int h, .int y] : List Value).toArray below meth c H locs 0 0 (MQ below (va_Qv (fun z => z = gnF (selS u n h y k) t n k) (XB D g ad sz) (AX ad sz)) ([.ref (ad 75), .int (nI t), .int (nI n), .int h, .int y] : List Value).toArray s 0 0 (AX ad sz)) (F0 m 86 ls []) := by
        intro n86
        induction n86 with
        | zero => intro i b hi hv hb0 hb1 hb2 hz; exact absurd hz (by omega)
        | succ n86 ih86 =>
          intro i b hi hv hb0 hb1 hb2 hnL86 H locs hw ls hl
          refine lv_iload hx hb d_M_growNode_86 (lv_at hl 0 rfl) ?_
          refine lv_aload_n hx hb d_M_growNode_88 rfl (lv_at hl 1 rfl) ?_
          refine x_get (ci := 7) (k := 75) hx hb ht in_M hown hw (by decide) o_M rfl 14 (by decide) (ht _ w_500) rfl d_M_growNode_89 ?_
          rw [show (b.2.2.1 12) = (nI k) from by rw [hb2]; exact h12]
          refine lv_icmp_ge (tgt := 153) hx hb d_M_growNode_92 (by decide) (fun c92 => ?_) (fun c92 => ?_)
          · have h92 : (k) ≤ (i) := (nI_leI (a := k) (b := i) (by omega) (by omega)).mp c92
            exact x_vret hsz hx hb hr hlk hw (by rw [hsel]; unfold gnF; rw [if_neg c50, ← hv, show i = k by omega, hfe, nI_clamp (by omega)]) d_M_growNode_153
          · have h92 : ¬ (k) ≤ (i) := fun hz9 => c92 ((nI_leI (a := k) (b := i) (by omega) (by omega)).mpr hz9)
            refine lv_aload_n hx hb d_M_growNode_95 rfl (lv_at hl 1 rfl) ?_
            refine x_get (ci := 7) (k := 75) hx hb ht in_M hown hw (by decide) o_M rfl 12 (by decide) (ht _ w_498) rfl d_M_growNode_96 ?_
            refine lv_iload hx hb d_M_growNode_99 (lv_at hl 0 rfl) ?_
            refine x_iald (k := 86) hx hb hw (by decide) rfl (vin (N := 16) (by omega) rfl (by omega)) d_M_growNode_101 ?_
            rw [nI_clamp (n := i) (by omega)]
            rw [show (b.1 86 i) = (w.1 86 i) from hb1 i (Nat.le_refl i)]
            refine lv_iload_n hx hb d_M_growNode_102 rfl (lv_at hl 3 rfl) ?_
            refine lv_icmp_ne (tgt := 147) hx hb d_M_growNode_103 (by decide) (fun c103 => ?_) (fun c103 => ?_)
            · refine lv_iinc (v := (nI (i + 1))) (lv' := [(7, .int (nI (i + 1))), (0, .ref (ad 75)), (1, .int (nI t)), (2, .int (nI n)), (3, .int h), (4, .int y), (5, .int (nI (t * 7 + n)))]) hx hb d_M_growNode_147 hl (k := 0) rfl (nI_1 _) (by decide) rfl (fun ls hl => ?_)
              refine lv_goto (tgt := 86) hx hb d_M_growNode_150 (by decide) ?_
              exact ih86 (i + 1) (b) (by omega) (by rw [← hv]; simp only [sendM]; first | (rw [if_pos (show ((sI (sI (sI w 81 (t * 7 + n) 2) 82 (t * 7 + n) (nI fe)) 83 (t * 7 + n) (w.2.2.1 15))).1 86 i = nI n from c103), if_pos (show ((sI (sI (sI w 81 (t * 7 + n) 2) 82 (t * 7 + n) (nI fe)) 83 (t * 7 + n) (w.2.2.1 15))).1 85 (i * 5 + fe) ≤ ((sI (sI (sI w 81 (t * 7 + n) 2) 82 (t * 7 + n) (nI fe)) 83 (t * 7 + n) (w.2.2.1 15))).2.2.1 15 from c130)]; done) | (rw [if_pos (show ((sI (sI (sI w 81 (t * 7 + n) 2) 82 (t * 7 + n) (nI fe)) 83 (t * 7 + n) (w.2.2.1 15))).1 86 i = nI n from c103), if_neg (show ¬ ((sI (sI (sI w 81 (t * 7 + n) 2) 82 (t * 7 + n) (nI fe)) 83 (t * 7 + n) (w.2.2.1 15))).1 85 (i * 5 + fe) ≤ ((sI (sI (sI w 81 (t * 7 + n) 2) 82 (t * 7 + n) (nI fe)) 83 (t * 7 + n) (w.2.2.1 15))).2.2.1 15 from c130)]; done) | (rw [if_neg (show ¬ ((sI (sI (sI w 81 (t * 7 + n) 2) 82 (t * 7 + n) (nI fe)) 83 (t * 7 + n) (w.2.2.1 15))).1 86 i = nI n from c103)]; done)) (fun j hj => by first | (rw [sI_ne hj]; exact hb0 j hj) | exact hb0 j hj) (fun j hj => by first | (rw [sI_eq]; show upd _ _ _ _ = _; unfold upd; rw [if_neg (by omega)]; exact hb1 j (by omega)) | exact hb1 j (by omega)) (hb2) (by omega) _ _ hw ls (lv_sub hl [0, 1, 2, 3, 4, 5, 6] rfl)
            · refine lv_aload_n hx hb d_M_growNode_106 rfl (lv_at hl 1 rfl) ?_
              refine x_get (ci := 7) (k := 75) hx hb ht in_M hown hw (by decide) o_M rfl 12 (by decide) (ht _ w_498) rfl d_M_growNode_107 ?_
              refine lv_iload hx hb d_M_growNode_110 (lv_at hl 0 rfl) ?_
              refine lv_aload_n hx hb d_M_growNode_112 rfl (lv_at hl 1 rfl) ?_
              refine x_get (ci := 7) (k := 75) hx hb ht in_M hown hw (by decide) o_M rfl 11 (by decide) (ht _ w_497) rfl d_M_growNode_113 ?_
              refine lv_iload hx hb d_M_growNode_116 (lv_at hl 0 rfl) ?_
              refine lv_iconst (v := 5) hx hb d_M_growNode_118 (by decide) ?_
              refine lv_imul hx hb d_M_growNode_119 ?_
              rw [show ((nI i) * 5) = (nI (i * 5)) from pk_mul _ _]
              refine lv_aload_n hx hb d_M_growNode_120 rfl (lv_at hl 1 rfl) ?_
              refine x_get (ci := 7) (k := 75) hx hb ht in_M hown hw (by decide) o_M rfl 19 (by decide) (ht _ w_505) rfl d_M_growNode_121 ?_
              rw [show (b.2.2.1 14) = (nI fe) from by rw [hb2]; exact hfe]
              refine lv_iadd hx hb d_M_growNode_124 ?_
              rw [show ((nI (i * 5)) + (nI fe)) = (nI (i * 5 + fe)) from nI_add _ _]
              refine x_iald (k := 85) hx hb hw (by decide) rfl (vin (N := 80) (by omega) rfl (by omega)) d_M_growNode_125 ?_
              rw [nI_clamp (n := i * 5 + fe) (by omega)]
              rw [show (b.1 85 (i * 5 + fe)) = (w.1 85 (i * 5 + fe)) from by rw [hb0 85 (by decide)]; rfl]
              refine lv_aload_n hx hb d_M_growNode_126 rfl (lv_at hl 1 rfl) ?_
              refine x_get (ci := 7) (k := 75) hx hb ht in_M hown hw (by decide) o_M rfl 20 (by decide) (ht _ w_506) rfl d_M_growNode_127 ?_
              rw [show (b.2.2.1 15) = (w.2.2.1 15) from by rw [hb2]]
              refine lv_icmp_le (tgt := 141) hx hb d_M_growNode_130 (by decide) (fun c130 => ?_) (fun c130 => ?_)
              · refine lv_iconst (v := 2) hx hb d_M_growNode_141 (by decide) ?_
                refine lv_iload_n hx hb d_M_growNode_142 rfl (lv_at hl 3 rfl) ?_
                refine lv_imul hx hb d_M_growNode_143 ?_
                rw [show (2 * (nI n)) = (nI (2 * n)) from pk_mul _ _]
                refine lv_iconst (v := 1) hx hb d_M_growNode_144 (by decide) ?_
                refine lv_iadd hx hb d_M_growNode_145 ?_
                rw [show ((nI (2 * n)) + 1) = (nI (2 * n + 1)) from nI_add _ _]
                refine x_iast (k := 86) hx hb hw (by decide) rfl (vin (N := 16) (by omega) rfl (by omega)) d_M_growNode_146 (fun H locs hw => ?_)
                rw [nI_clamp (n := i) (by omega)] at hw
                refine lv_iinc (v := (nI (i + 1))) (lv' := [(7, .int (nI (i + 1))), (0, .ref (ad 75)), (1, .int (nI t)), (2, .int (nI n)), (3, .int h), (4, .int y), (5, .int (nI (t * 7 + n)))]) hx hb d_M_growNode_147 hl (k := 0) rfl (nI_1 _) (by decide) rfl (fun ls hl => ?_)
                refine lv_goto (tgt := 86) hx hb d_M_growNode_150 (by decide) ?_
                exact ih86 (i + 1) ((sI b 86 i (nI (2 * n + 1)))) (by omega) (by rw [← hv]; simp only [sendM]; first | (rw [if_pos (show ((sI (sI (sI w 81 (t * 7 + n) 2) 82 (t * 7 + n) (nI fe)) 83 (t * 7 + n) (w.2.2.1 15))).1 86 i = nI n from c103), if_pos (show ((sI (sI (sI w 81 (t * 7 + n) 2) 82 (t * 7 + n) (nI fe)) 83 (t * 7 + n) (w.2.2.1 15))).1 85 (i * 5 + fe) ≤ ((sI (sI (sI w 81 (t * 7 + n) 2) 82 (t * 7 + n) (nI fe)) 83 (t * 7 + n) (w.2.2.1 15))).2.2.1 15 from c130)]; done) | (rw [if_pos (show ((sI (sI (sI w 81 (t * 7 + n) 2) 82 (t * 7 + n) (nI fe)) 83 (t * 7 + n) (w.2.2.1 15))).1 86 i = nI n from c103), if_neg (show ¬ ((sI (sI (sI w 81 (t * 7 + n) 2) 82 (t * 7 + n) (nI fe)) 83 (t * 7 + n) (w.2.2.1 15))).1 85 (i * 5 + fe) ≤ ((sI (sI (sI w 81 (t * 7 + n) 2) 82 (t * 7 + n) (nI fe)) 83 (t * 7 + n) (w.2.2.1 15))).2.2.1 15 from c130)]; done) | (rw [if_neg (show ¬ ((sI (sI (sI w 81 (t * 7 + n) 2) 82 (t * 7 + n) (nI fe)) 83 (t * 7 + n) (w.2.2.1 15))).1 86 i = nI n from c103)]; done)) (fun j hj => by first | (rw [sI_ne hj]; exact hb0 j hj) | exact hb0 j hj) (fun j hj => by first | (rw [sI_eq]; show upd _ _ _ _ = _; unfold upd; rw [if_neg (by omega)]; exact hb1 j (by omega)) | exact hb1 j (by omega)) (hb2) (by omega) _ _ hw ls (lv_sub hl [0, 1, 2, 3, 4, 5, 6] rfl)
              · refine lv_iconst (v := 2) hx hb d_M_growNode_133 (by decide) ?_
                refine lv_iload_n hx hb d_M_growNode_134 rfl (lv_at hl 3 rfl) ?_
                refine lv_imul hx hb d_M_growNode_135 ?_
                rw [show (2 * (nI n)) = (nI (2 * n)) from pk_mul _ _]
                refine lv_iconst (v := 2) hx hb d_M_growNode_136 (by decide) ?_
                refine lv_iadd hx hb d_M_growNode_137 ?_
                rw [show ((nI (2 * n)) + 2) = (nI (2 * n + 2)) from nI_add _ _]
                refine lv_goto (tgt := 146) hx hb d_M_growNode_138 (by decide) ?_
                refine x_iast (k := 86) hx hb hw (by decide) rfl (vin (N := 16) (by omega) rfl (by omega)) d_M_growNode_146 (fun H locs hw => ?_)
                rw [nI_clamp (n := i) (by omega)] at hw
                refine lv_iinc (v := (nI (i + 1))) (lv' := [(7, .int (nI (i + 1))), (0, .ref (ad 75)), (1, .int (nI t)), (2, .int (nI n)), (3, .int h), (4, .int y), (5, .int (nI (t * 7 + n)))]) hx hb d_M_growNode_147 hl (k := 0) rfl (nI_1 _) (by decide) rfl (fun ls hl => ?_)
                refine lv_goto (tgt := 86) hx hb d_M_growNode_150 (by decide) ?_
                exact ih86 (i + 1) ((sI b 86 i (nI (2 * n + 2)))) (by omega) (by rw [← hv]; simp only [sendM]; first | (rw [if_pos (show ((sI (sI (sI w 81 (t * 7 + n) 2) 82 (t * 7 + n) (nI fe)) 83 (t * 7 + n) (w.2.2.1 15))).1 86 i = nI n from c103), if_pos (show ((sI (sI (sI w 81 (t * 7 + n) 2) 82 (t * 7 + n) (nI fe)) 83 (t * 7 + n) (w.2.2.1 15))).1 85 (i * 5 + fe) ≤ ((sI (sI (sI w 81 (t * 7 + n) 2) 82 (t * 7 + n) (nI fe)) 83 (t * 7 + n) (w.2.2.1 15))).2.2.1 15 from c130)]; done) | (rw [if_pos (show ((sI (sI (sI w 81 (t * 7 + n) 2) 82 (t * 7 + n) (nI fe)) 83 (t * 7 + n) (w.2.2.1 15))).1 86 i = nI n from c103), if_neg (show ¬ ((sI (sI (sI w 81 (t * 7 + n) 2) 82 (t * 7 + n) (nI fe)) 83 (t * 7 + n) (w.2.2.1 15))).1 85 (i * 5 + fe) ≤ ((sI (sI (sI w 81 (t * 7 + n) 2) 82 (t * 7 + n) (nI fe)) 83 (t * 7 + n) (w.2.2.1 15))).2.2.1 15 from c130)]; done) | (rw [if_neg (show ¬ ((sI (sI (sI w 81 (t * 7 + n) 2) 82 (t * 7 + n) (nI fe)) 83 (t * 7 + n) (w.2.2.1 15))).1 86 i = nI n from c103)]; done)) (fun j hj => by first | (rw [sI_ne hj]; exact hb0 j hj) | exact hb0 j hj) (fun j hj => by first | (rw [sI_eq]; show upd _ _ _ _ = _; unfold upd; rw [if_neg (by omega)]; exact hb1 j (by omega)) | exact hb1 j (by omega)) (hb2) (by omega) _ _ hw ls (lv_sub hl [0, 1, 2, 3, 4, 5, 6] rfl)
      exact L86 ((k - 0) + 1) (0) ((sI (sI (sI w 81 (t * 7 + n) 2) 82 (t * 7 + n) (nI fe)) 83 (t * 7 + n) (w.2.2.1 15))) (by omega) (rfl) (fun _ _ => rfl) (fun _ _ => rfl) (rfl) (by omega) _ _ hw ls (lv_sub hl [0, 1, 2, 3, 4, 5, 6] rfl)
  refine lv_iload_n hx hb d_M_growNode_0 rfl (lv_at hl 1 rfl) ?_
  refine lv_bipush (v := 7) hx hb d_M_growNode_1 (by decide) ?_
  refine lv_imul hx hb d_M_growNode_3 ?_
  rw [show ((nI t) * 7) = (nI (t * 7)) from pk_mul _ _]
  refine lv_iload_n hx hb d_M_growNode_4 rfl (lv_at hl 2 rfl) ?_
  refine lv_iadd hx hb d_M_growNode_5 ?_
  rw [show ((nI (t * 7)) + (nI n)) = (nI (t * 7 + n)) from nI_add _ _]
  refine lv_istore (lv' := [(5, .int (nI (t * 7 + n))), (0, .ref (ad 75)), (1, .int (nI t)), (2, .int (nI n)), (3, .int h), (4, .int y)]) hx hb d_M_growNode_6 hl (by decide) rfl (fun ls hl => ?_)
  refine lv_aload_n hx hb d_M_growNode_8 rfl (lv_at hl 1 rfl) ?_
  refine lv_iconst (v := (-1)) hx hb d_M_growNode_9 (by decide) ?_
  refine x_puti (ci := 7) (k := 75) hx hb ht in_M t_M t_M_ok n_M hown hw (by decide) o_M rfl 19 (14) (by decide) (ht _ w_505) rfl (by decide +kernel) (Nat.le_of_ble_eq_true rfl) rfl rfl d_M_growNode_10 (fun H locs hw => ?_)
  refine lv_iload_n hx hb d_M_growNode_13 rfl (lv_at hl 3 rfl) ?_
  refine lv_if_ne (tgt := 21) hx hb d_M_growNode_14 (by decide) (fun c14 => ?_) (fun c14 => ?_)
  · have h14 : ¬ (n) = (0) := fun hz9 => c14 ((nI_eq (a := n) (b := 0) (by omega) (by omega)).mpr hz9)
    refine lv_iload_n hx hb d_M_growNode_21 rfl (lv_at hl 3 rfl) ?_
    refine lv_iconst (v := 3) hx hb d_M_growNode_22 (by decide) ?_
    refine lv_icmp_ge (tgt := 30) hx hb d_M_growNode_23 (by decide) (fun c23 => ?_) (fun c23 => ?_)
    · have h23 : (3) ≤ (n) := (nI_leI (a := 3) (b := n) (by omega) (by omega)).mp c23
      refine lv_iconst (v := 2) hx hb d_M_growNode_30 (by decide) ?_
      refine lv_istore (lv' := [(6, .int 2), (5, .int (nI (t * 7 + n))), (0, .ref (ad 75)), (1, .int (nI t)), (2, .int (nI n)), (3, .int h), (4, .int y)]) hx hb d_M_growNode_31 hl (by decide) rfl (fun ls hl => ?_)
      refine lv_iload hx hb d_M_growNode_33 (lv_at hl 0 rfl) ?_
      refine lv_iload_n hx hb d_M_growNode_35 rfl (lv_at hl 5 rfl) ?_
      refine lv_icmp_ge (tgt := 46) hx hb d_M_growNode_36 (by decide) (fun c36 => ?_) (fun c36 => ?_)
      · exact K46 ((sF u 14 (-1))) (by unfold selS lvlF; first | (rw [if_pos h14, if_pos c36]; done) | (rw [if_neg h14, if_pos h23, if_pos c36]; done) | (rw [if_neg h14, if_neg h23, if_pos c36]; done)) (Or.inl rfl) (hns) _ _ hw ls (lv_sub hl [2, 3, 4, 5, 6, 1] rfl)
      · refine lv_aload_n hx hb d_M_growNode_39 rfl (lv_at hl 2 rfl) ?_
        refine lv_iload_n hx hb d_M_growNode_40 rfl (lv_at hl 4 rfl) ?_
        refine lv_iload hx hb d_M_growNode_41 (lv_at hl 6 rfl) ?_
        refine x_cv (x_runV (na := 2) (k := 75) (As := [.int (nI n), .int y]) (rest := []) (ci := 7) ⟨hx, hb, hml, hown, ht⟩ (m_M_findSplit (u := (sF u 14 (-1))) (nI n) y k hk16 hns _) w_602 w_604 s_18 w_9 w_605 (by decide +kernel) ⟨rfl, rfl, by decide, by decide⟩ hw (by decide) o_M rfl rfl hl.1 rfl (Nat.le_of_ble_eq_true rfl) d_M_growNode_43 ⟨Nat.zero_le _, Nat.zero_le _⟩) hw hA (fun u43 H locs hp hw => ?_)
        have hu := hp.symm
        subst hu
        exact K46 ((fMF (sF u 14 (-1)) (nI n) y k 5)) (by unfold selS lvlF; first | (rw [if_pos h14, if_neg c36]; done) | (rw [if_neg h14, if_pos h23, if_neg c36]; done) | (rw [if_neg h14, if_neg h23, if_neg c36]; done)) (fMF_14 _ _ _ _ 5 (by omega)) (by rw [fMF_12]; exact hns) _ _ hw ls (lv_sub hl [2, 3, 4, 5, 6, 1] rfl)
    · have h23 : ¬ (3) ≤ (n) := fun hz9 => c23 ((nI_leI (a := 3) (b := n) (by omega) (by omega)).mpr hz9)
      refine lv_iconst (v := 1) hx hb d_M_growNode_26 (by decide) ?_
      refine lv_goto (tgt := 31) hx hb d_M_growNode_27 (by decide) ?_
      refine lv_istore (lv' := [(6, .int 1), (5, .int (nI (t * 7 + n))), (0, .ref (ad 75)), (1, .int (nI t)), (2, .int (nI n)), (3, .int h), (4, .int y)]) hx hb d_M_growNode_31 hl (by decide) rfl (fun ls hl => ?_)
      refine lv_iload hx hb d_M_growNode_33 (lv_at hl 0 rfl) ?_
      refine lv_iload_n hx hb d_M_growNode_35 rfl (lv_at hl 5 rfl) ?_
      refine lv_icmp_ge (tgt := 46) hx hb d_M_growNode_36 (by decide) (fun c36 => ?_) (fun c36 => ?_)
      · exact K46 ((sF u 14 (-1))) (by unfold selS lvlF; first | (rw [if_pos h14, if_pos c36]; done) | (rw [if_neg h14, if_pos h23, if_pos c36]; done) | (rw [if_neg h14, if_neg h23, if_pos c36]; done)) (Or.inl rfl) (hns) _ _ hw ls (lv_sub hl [2, 3, 4, 5, 6, 1] rfl)
      · refine lv_aload_n hx hb d_M_growNode_39 rfl (lv_at hl 2 rfl) ?_
        refine lv_iload_n hx hb d_M_growNode_40 rfl (lv_at hl 4 rfl) ?_
        refine lv_iload hx hb d_M_growNode_41 (lv_at hl 6 rfl) ?_
        refine x_cv (x_runV (na := 2) (k := 75) (As := [.int (nI n), .int y]) (rest := []) (ci := 7) ⟨hx, hb, hml, hown, ht⟩ (m_M_findSplit (u := (sF u 14 (-1))) (nI n) y k hk16 hns _) w_602 w_604 s_18 w_9 w_605 (by decide +kernel) ⟨rfl, rfl, by decide, by decide⟩ hw (by decide) o_M rfl rfl hl.1 rfl (Nat.le_of_ble_eq_true rfl) d_M_growNode_43 ⟨Nat.zero_le _, Nat.zero_le _⟩) hw hA (fun u43 H locs hp hw => ?_)
        have hu := hp.symm
        subst hu
        exact K46 ((fMF (sF u 14 (-1)) (nI n) y k 5)) (by unfold selS lvlF; first | (rw [if_pos h14, if_neg c36]; done) | (rw [if_neg h14, if_pos h23, if_neg c36]; done) | (rw [if_neg h14, if_neg h23, if_neg c36]; done)) (fMF_14 _ _ _ _ 5 (by omega)) (by rw [fMF_12]; exact hns) _ _ hw ls (lv_sub hl [2, 3, 4, 5, 6, 1] rfl)
  · have h14 : (n) = (0) := (nI_eq (a := n) (b := 0) (by omega) (by omega)).mp c14
    refine lv_iconst (v := 0) hx hb d_M_growNode_17 (by decide) ?_
    refine lv_goto (tgt := 31) hx hb d_M_growNode_18 (by decide) ?_
    refine lv_istore (lv' := [(6, .int 0), (5, .int (nI (t * 7 + n))), (0, .ref (ad 75)), (1, .int (nI t)), (2, .int (nI n)), (3, .int h), (4, .int y)]) hx hb d_M_growNode_31 hl (by decide) rfl (fun ls hl => ?_)
    refine lv_iload hx hb d_M_growNode_33 (lv_at hl 0 rfl) ?_
    refine lv_iload_n hx hb d_M_growNode_35 rfl (lv_at hl 5 rfl) ?_
    refine lv_icmp_ge (tgt := 46) hx hb d_M_growNode_36 (by decide) (fun c36 => ?_) (fun c36 => ?_)
    · exact K46 ((sF u 14 (-1))) (by unfold selS lvlF; first | (rw [if_pos h14, if_pos c36]; done) | (rw [if_neg h14, if_pos h23, if_pos c36]; done) | (rw [if_neg h14, if_neg h23, if_pos c36]; done)) (Or.inl rfl) (hns) _ _ hw ls (lv_sub hl [2, 3, 4, 5, 6, 1] rfl)
    · refine lv_aload_n hx hb d_M_growNode_39 rfl (lv_at hl 2 rfl) ?_
      refine lv_iload_n hx hb d_M_growNode_40 rfl (lv_at hl 4 rfl) ?_
      refine lv_iload hx hb d_M_growNode_41 (lv_at hl 6 rfl) ?_
      refine x_cv (x_runV (na := 2) (k := 75) (As := [.int (nI n), .int y]) (rest := []) (ci := 7) ⟨hx, hb, hml, hown, ht⟩ (m_M_findSplit (u := (sF u 14 (-1))) (nI n) y k hk16 hns _) w_602 w_604 s_18 w_9 w_605 (by decide +kernel) ⟨rfl, rfl, by decide, by decide⟩ hw (by decide) o_M rfl rfl hl.1 rfl (Nat.le_of_ble_eq_true rfl) d_M_growNode_43 ⟨Nat.zero_le _, Nat.zero_le _⟩) hw hA (fun u43 H locs hp hw => ?_)
      have hu := hp.symm
      subst hu
      exact K46 ((fMF (sF u 14 (-1)) (nI n) y k 5)) (by unfold selS lvlF; first | (rw [if_pos h14, if_neg c36]; done) | (rw [if_neg h14, if_pos h23, if_neg c36]; done) | (rw [if_neg h14, if_neg h23, if_neg c36]; done)) (fMF_14 _ _ _ _ 5 (by omega)) (by rw [fMF_12]; exact hns) _ _ hw ls (lv_sub hl [2, 3, 4, 5, 6, 1] rfl))
