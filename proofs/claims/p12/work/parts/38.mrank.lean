def bfN (u : St) (q d : Nat) : Nat → Nat
  | 0 => 0
  | o + 1 => if foundF u q o = 0 then bfN u q d o else if plainF u q d < plainF u q o then bfN u q d o + 1 else if plainF u q o = plainF u q d then (if o < d then bfN u q d o + 1 else bfN u q d o) else bfN u q d o
theorem bfN_le (u : St) (q d : Nat) : ∀ o, bfN u q d o ≤ o := by
  intro o
  induction o with
  | zero => exact Nat.le_refl 0
  | succ o ih =>
    simp only [bfN]
    repeat' split
    all_goals omega
def caS (u : St) (q a : Nat) (w : St) (d : Nat) : St := if foundF u q d = 0 then w else if bfN u q d 16 = a then sF (sI w 88 a (nI d)) 13 (nI (a + 1)) else w
def caR (u : St) (q a : Nat) (w : St) : Nat → St
  | 0 => w
  | d + 1 => caS u q a (caR u q a w d) d
def caA (u : St) (q : Nat) : Nat → St
  | 0 => sF u 13 0
  | a + 1 => caR u q a (caA u q a) 16
def OKM (u w : St) : Prop := ((∃ b : Nat, b ≤ 16 ∧ w.2.2.1 13 = nI b) ∧ ∀ i, i < 16 → ixD (w.1 88 i)) ∧ (∀ j, j ≠ 88 → w.1 j = u.1 j) ∧ w.2.1 = u.2.1 ∧ (∀ j, j ≠ 13 → w.2.2.1 j = u.2.2.1 j) ∧ w.2.2.2 = u.2.2.2
theorem caS_ok {u w : St} {q a d : Nat} (h : OKM u w) (ha : a < 16) (hd : d < 16) : OKM u (caS u q a w d) := by
  obtain ⟨⟨h0, hc⟩, h1, h2, h3, h4⟩ := h
  unfold caS
  split
  · exact ⟨⟨h0, hc⟩, h1, h2, h3, h4⟩
  · split
    · refine ⟨⟨⟨a + 1, by omega, sF_eq⟩, fun i hi => ?_⟩, fun j hj => ?_, h2, fun j hj => ?_, h4⟩
      · show ixD ((sI w 88 a (nI d)).1 88 i)
        rw [sI_eq]
        unfold upd
        split
        · exact ⟨d, hd, rfl⟩
        · exact hc i hi
      · show (sI w 88 a (nI d)).1 j = _
        rw [sI_ne hj]; exact h1 j hj
      · rw [sF_ne hj]; exact h3 j hj
    · exact ⟨⟨h0, hc⟩, h1, h2, h3, h4⟩
theorem caR_ok {u w : St} {q a : Nat} (h : OKM u w) (ha : a < 16) : ∀ d, d ≤ 16 → OKM u (caR u q a w d) := by
  intro d
  induction d with
  | zero => intro _; exact h
  | succ d ih => intro hd; exact caS_ok (ih (by omega)) ha (by omega)
theorem caA_ok (u : St) (q : Nat) (hc : ∀ i, i < 16 → ixD (u.1 88 i)) : ∀ a, a ≤ 16 → OKM u (caA u q a) := by
  intro a
  induction a with
  | zero => intro _; exact ⟨⟨⟨0, by omega, rfl⟩, hc⟩, fun _ _ => rfl, rfl, fun j hj => sF_ne hj, rfl⟩
  | succ a ih => intro ha; exact caR_ok (ih (by omega)) (by omega) 16 (Nat.le_refl 16)
theorem ftM_eq {u w : St} {q d : Nat} {f : Int32} (h : ∀ j, j ≠ 88 → w.1 j = u.1 j) : ftM w q d f = ftM u q d f := by
  unfold ftM
  rw [h 78 (by decide), h 79 (by decide), h 77 (by decide)]
theorem found_eq {u w : St} {q d : Nat} (h : ∀ j, j ≠ 88 → w.1 j = u.1 j) : foundF w q d = foundF u q d := by
  unfold foundF
  rw [ftM_eq h, h 76 (by decide)]
theorem plain_eq {u w : St} {q d : Nat} (h : ∀ j, j ≠ 88 → w.1 j = u.1 j) : plainF w q d = plainF u q d := by
  unfold plainF
  rw [ftM_eq h, ftM_eq h, ftM_eq h]
theorem walkM_eq {u w : St} {q d t : Nat} (h : ∀ j, j ≠ 88 → j ≠ 89 → w.1 j = u.1 j) : ∀ i j, walkM w q d t i j = walkM u q d t i j := by
  intro i
  induction i with
  | zero => intro j; rfl
  | succ i ih =>
    intro j
    simp only [walkM]
    rw [h 81 (by decide) (by decide), h 78 (by decide) (by decide), h 79 (by decide) (by decide), h 77 (by decide) (by decide), h 82 (by decide) (by decide), h 83 (by decide) (by decide), ih]
theorem scM_eq {u w : St} {q d n : Nat} (h : ∀ j, j ≠ 88 → j ≠ 89 → w.1 j = u.1 j) (h2 : w.2.1 = u.2.1) : scM w q d n = scM u q d n := by
  induction n with
  | zero => rfl
  | succ n ih =>
    simp only [scM]
    rw [ih, walkM_eq h, h2]
def rbN (u w : St) (q n i : Nat) : Nat → Nat
  | 0 => 0
  | k + 1 => if 0 < lg_cmp (scM u q (w.1 88 k).toNatClampNeg n) (scM u q (w.1 88 i).toNatClampNeg n) then rbN u w q n i k + 1 else if lg_cmp (scM u q (w.1 88 k).toNatClampNeg n) (scM u q (w.1 88 i).toNatClampNeg n) = 0 then (if k < i then rbN u w q n i k + 1 else rbN u w q n i k) else rbN u w q n i k
theorem rbN_le {u w : St} {q n i : Nat} : ∀ k, rbN u w q n i k ≤ k ∧ (i < k → rbN u w q n i k < k) := by
  intro k
  induction k with
  | zero => exact ⟨Nat.le_refl 0, fun h => absurd h (by omega)⟩
  | succ k ih =>
    simp only [rbN]
    by_cases e : k = i
    · subst e
      have e0 : lg_cmp (scM u q (w.1 88 k).toNatClampNeg n) (scM u q (w.1 88 k).toNatClampNeg n) = 0 := (lg_cmp_eq _ _).mpr rfl
      rw [e0, if_neg (by decide), if_pos rfl, if_neg (by omega)]
      exact ⟨by omega, fun _ => by omega⟩
    · refine ⟨?_, fun hi => ?_⟩
      · repeat' split
        all_goals omega
      · have := ih.2 (by omega)
        repeat' split
        all_goals omega
theorem rbN_lt {u w : St} {q n i b : Nat} (h : i < b) : rbN u w q n i b < b := (rbN_le b).2 h
def leF (u w : St) (q n b : Nat) : Nat → St
  | 0 => w
  | i + 1 => sI (leF u w q n b i) 89 (rbN u w q n i b) (w.1 88 i)
def rankM (u : St) (q a n : Nat) : St := leF u (caA u q a) q n ((caA u q a).2.2.1 13).toNatClampNeg ((caA u q a).2.2.1 13).toNatClampNeg
set_option maxHeartbeats 4000000 in
set_option maxRecDepth 100000 in
theorem m_M_rank {l : Launch} {D : va_G} {g : Ids} {ad : Nat → Nat} {u : St} (q : Nat) (a : Nat) (n : Nat) (hq : q < 8) (hdp : a ≤ 16) (hd10 : u.2.2.1 10 = nI a) (hcd : ∀ i, i < 16 → ixD (u.1 88 i)) (hn4 : n ≤ 4) (hs : u.2.2.1 11 = nI n) (hK3 : ∀ t, t < n → ∀ j, j < 7 → u.1 81 (t * 7 + j) = 2 → j < 3) : XMv l D g ad y_M_rank b_M_rank 9 (none) (rmN 2 55) [.ref (ad 75), .int (nI q)] u (fun z => z = rankM u q a n) := fun sz => x_met (by decide) (Nat.le_of_ble_eq_true rfl) (fun p e s m below meth c hsz hx hb hr hml hown ht hlk hw ls hl => by
  have hA : ∀ q, s.heap.size ≤ q → AX ad sz q := fun q h => Or.inr (hsz ▸ h)
  have hl : lv_has ls 9 [(0, .ref (ad 75)), (1, .int (nI q))] := hl
  refine lv_aload_n hx hb d_M_rank_0 rfl (lv_at hl 0 rfl) ?_
  refine lv_iconst (v := 0) hx hb d_M_rank_1 (by decide) ?_
  refine x_puti (ci := 7) (k := 75) hx hb ht in_M t_M t_M_ok n_M hown hw (by decide) o_M rfl 17 (13) (by decide) (ht _ w_503) rfl (by decide +kernel) (Nat.le_of_ble_eq_true rfl) rfl rfl d_M_rank_2 (fun H locs hw => ?_)
  refine lv_iconst (v := 0) hx hb d_M_rank_5 (by decide) ?_
  refine lv_istore_n (lv' := [(2, .int 0), (0, .ref (ad 75)), (1, .int (nI q))]) hx hb d_M_rank_6 rfl hl (by decide) rfl (fun ls hl => ?_)
  have L7 : ∀ (n7 : Nat) (o1 : Nat) (w : St), o1 ≤ a → caA u q o1 = w → a - o1 < n7 → ∀ (H : Heap) (locs : List Loc), XH D g ad (AX ad sz) s s.heap H locs w → ∀ ls : Array Slot, lv_has ls 9 [(2, .int (nI o1)), (0, .ref (ad 75)), (1, .int (nI q))] → W p l e (rmN 2 55) s m ([.ref (ad 75), .int (nI q)] : List Value).toArray below meth c H locs 0 0 (MQ below (va_Qv (fun z => z = rankM u q a n) (XB D g ad sz) (AX ad sz)) ([.ref (ad 75), .int (nI q)] : List Value).toArray s 0 0 (AX ad sz)) (F0 m 7 ls []) := by
    intro n7
    induction n7 with
    | zero => intro o1 w h1 hv hz; exact absurd hz (by omega)
    | succ n7 ih7 =>
      intro o1 w h1 hv hnL7 H locs hw ls hl
      refine lv_iload_n hx hb d_M_rank_7 rfl (lv_at hl 0 rfl) ?_
      refine lv_aload_n hx hb d_M_rank_8 rfl (lv_at hl 1 rfl) ?_
      refine x_get (ci := 7) (k := 75) hx hb ht in_M hown hw (by decide) o_M rfl 5 (by decide) (ht _ w_491) rfl d_M_rank_9 ?_
      rw [show (w.2.2.1 10) = (nI a) from by rw [(show OKM u w from hv ▸ caA_ok u q hcd o1 (by omega)).2.2.2.1 10 (by decide)]; exact hd10]
      refine lv_icmp_ge (tgt := 140) hx hb d_M_rank_12 (by decide) (fun c12 => ?_) (fun c12 => ?_)
      · have h12 : (a) ≤ (o1) := (nI_leI (a := a) (b := o1) (by omega) (by omega)).mp c12
        obtain ⟨⟨⟨b, hb16, hb13⟩, hcw⟩, hwc, hw2, hwf, -⟩ : OKM u w := hv ▸ caA_ok u q hcd o1 (by omega)
        refine lv_iconst (v := 0) hx hb d_M_rank_140 (by decide) ?_
        refine lv_istore_n (lv' := [(2, .int 0), (0, .ref (ad 75)), (1, .int (nI q))]) hx hb d_M_rank_141 rfl hl (by decide) rfl (fun ls hl => ?_)
        have L142 : ∀ (n142 : Nat) (i : Nat) (x : St), i ≤ b → leF u w q n b i = x → (∀ y, y ≠ 89 → x.1 y = w.1 y) → x.2 = w.2 → b - i < n142 → ∀ (H : Heap) (locs : List Loc), XH D g ad (AX ad sz) s s.heap H locs x → ∀ ls : Array Slot, lv_has ls 9 [(2, .int (nI i)), (0, .ref (ad 75)), (1, .int (nI q))] → W p l e (rmN 2 55) s m ([.ref (ad 75), .int (nI q)] : List Value).toArray below meth c H locs 0 0 (MQ below (va_Qv (fun z => z = rankM u q a n) (XB D g ad sz) (AX ad sz)) ([.ref (ad 75), .int (nI q)] : List Value).toArray s 0 0 (AX ad sz)) (F0 m 142 ls []) := by
          intro n142
          induction n142 with
          | zero => intro i x h4 hv3 hx1 hx2 hz; exact absurd hz (by omega)
          | succ n142 ih142 =>
            intro i x h4 hv3 hx1 hx2 hnL142 H locs hw ls hl
            refine lv_iload_n hx hb d_M_rank_142 rfl (lv_at hl 0 rfl) ?_
            refine lv_aload_n hx hb d_M_rank_143 rfl (lv_at hl 1 rfl) ?_
            refine x_get (ci := 7) (k := 75) hx hb ht in_M hown hw (by decide) o_M rfl 17 (by decide) (ht _ w_503) rfl d_M_rank_144 ?_
            rw [show (x.2.2.1 13) = (nI b) from by rw [hx2]; exact hb13]
            refine lv_icmp_ge (tgt := 240) hx hb d_M_rank_147 (by decide) (fun c147 => ?_) (fun c147 => ?_)
            · have h147 : (b) ≤ (i) := (nI_leI (a := b) (b := i) (by omega) (by omega)).mp c147
              exact x_vret hsz hx hb hr hlk hw (by unfold rankM; rw [← show o1 = a by omega, hv, hb13, nI_clamp (by omega)]; rw [show i = b by omega] at hv3; exact hv3.symm) d_M_rank_240
            · have h147 : ¬ (b) ≤ (i) := fun hz9 => c147 ((nI_leI (a := b) (b := i) (by omega) (by omega)).mpr hz9)
              obtain ⟨j, hj16, hij⟩ := hcw i (by omega)
              refine lv_iconst (v := 0) hx hb d_M_rank_150 (by decide) ?_
              refine lv_istore_n (lv' := [(3, .int 0), (2, .int (nI i)), (0, .ref (ad 75)), (1, .int (nI q))]) hx hb d_M_rank_151 rfl hl (by decide) rfl (fun ls hl => ?_)
              refine lv_aload_n hx hb d_M_rank_152 rfl (lv_at hl 2 rfl) ?_
              refine lv_iload_n hx hb d_M_rank_153 rfl (lv_at hl 3 rfl) ?_
              refine lv_aload_n hx hb d_M_rank_154 rfl (lv_at hl 2 rfl) ?_
              refine x_get (ci := 7) (k := 75) hx hb ht in_M hown hw (by decide) o_M rfl 15 (by decide) (ht _ w_501) rfl d_M_rank_155 ?_
              refine lv_iload_n hx hb d_M_rank_158 rfl (lv_at hl 1 rfl) ?_
              refine x_iald (k := 88) hx hb hw (by decide) rfl (vin (N := 16) (by omega) rfl (by omega)) d_M_rank_159 ?_
              rw [nI_clamp (n := i) (by omega)]
              rw [show (x.1 88 i) = (nI j) from by rw [hx1 88 (by decide)]; exact hij]
              refine x_cl (x_runV (na := 2) (k := 75) (As := [.int (nI q), .int (nI j)]) (rest := []) (ci := 7) ⟨hx, hb, hml, hown, ht⟩ (m_M_scoreOf (u := x) q j n hq hj16 hn4 (by rw [hx2, hwf 11 (by decide)]; exact hs) (fun t ht9 j hj => by rw [hx1 81 (by decide), hwc 81 (by decide)]; exact hK3 t ht9 j hj) _) w_641 w_643 s_25 w_9 w_644 (by decide +kernel) ⟨rfl, rfl, by decide, by decide⟩ hw (by decide) o_M rfl rfl hl.1 rfl (Nat.le_of_ble_eq_true rfl) d_M_rank_160 ⟨Nat.zero_le _, Nat.zero_le _⟩) hw hA (fun v160 u160 H locs hp hw => ?_)
              obtain ⟨hv9, hu⟩ := hp
              rw [hv9]
              have hu := hu.symm
              subst hu
              rw [show (scM x q j n) = (scM u q j n) from scM_eq (fun y hy hy2 => by rw [hx1 y hy2, hwc y hy]) (by rw [hx2, hw2])]
              refine lv_lstore (lv' := [(4, .long (scM u q j n)), (3, .int 0), (2, .int (nI i)), (0, .ref (ad 75)), (1, .int (nI q))]) hx hb d_M_rank_163 hl (by decide) rfl (fun ls hl => ?_)
              refine lv_iconst (v := 0) hx hb d_M_rank_165 (by decide) ?_
              refine lv_istore (lv' := [(6, .int 0), (4, .long (scM u q j n)), (3, .int 0), (2, .int (nI i)), (0, .ref (ad 75)), (1, .int (nI q))]) hx hb d_M_rank_166 hl (by decide) rfl (fun ls hl => ?_)
              have L168 : ∀ (n168 : Nat) (k : Nat), k ≤ b → b - k < n168 → ∀ (H : Heap) (locs : List Loc), XH D g ad (AX ad sz) s s.heap H locs x → ∀ ls : Array Slot, lv_has ls 9 [(6, .int (nI k)), (4, .long (scM u q j n)), (3, .int (nI (rbN u w q n i k))), (2, .int (nI i)), (0, .ref (ad 75)), (1, .int (nI q))] → W p l e (rmN 2 55) s m ([.ref (ad 75), .int (nI q)] : List Value).toArray below meth c H locs 0 0 (MQ below (va_Qv (fun z => z = rankM u q a n) (XB D g ad sz) (AX ad sz)) ([.ref (ad 75), .int (nI q)] : List Value).toArray s 0 0 (AX ad sz)) (F0 m 168 ls []) := by
                intro n168
                induction n168 with
                | zero => intro k h5 hz; exact absurd hz (by omega)
                | succ n168 ih168 =>
                  intro k h5 hnL168 H locs hw ls hl
                  refine lv_iload hx hb d_M_rank_168 (lv_at hl 0 rfl) ?_
                  refine lv_aload_n hx hb d_M_rank_170 rfl (lv_at hl 4 rfl) ?_
                  refine x_get (ci := 7) (k := 75) hx hb ht in_M hown hw (by decide) o_M rfl 17 (by decide) (ht _ w_503) rfl d_M_rank_171 ?_
                  rw [show (x.2.2.1 13) = (nI b) from by rw [hx2]; exact hb13]
                  refine lv_icmp_ge (tgt := 222) hx hb d_M_rank_174 (by decide) (fun c174 => ?_) (fun c174 => ?_)
                  · have h174 : (b) ≤ (k) := (nI_leI (a := b) (b := k) (by omega) (by omega)).mp c174
                    have hrb := rbN_lt (u := u) (w := w) (q := q) (n := n) (i := i) (b := b) (by omega)
                    obtain rfl : b = k := by omega
                    refine lv_aload_n hx hb d_M_rank_222 rfl (lv_at hl 4 rfl) ?_
                    refine x_get (ci := 7) (k := 75) hx hb ht in_M hown hw (by decide) o_M rfl 16 (by decide) (ht _ w_502) rfl d_M_rank_223 ?_
                    refine lv_iload_n hx hb d_M_rank_226 rfl (lv_at hl 2 rfl) ?_
                    refine lv_aload_n hx hb d_M_rank_227 rfl (lv_at hl 4 rfl) ?_
                    refine x_get (ci := 7) (k := 75) hx hb ht in_M hown hw (by decide) o_M rfl 15 (by decide) (ht _ w_501) rfl d_M_rank_228 ?_
                    refine lv_iload_n hx hb d_M_rank_231 rfl (lv_at hl 3 rfl) ?_
                    refine x_iald (k := 88) hx hb hw (by decide) rfl (vin (N := 16) (by omega) rfl (by omega)) d_M_rank_232 ?_
                    rw [nI_clamp (n := i) (by omega)]
                    rw [show (x.1 88 i) = (w.1 88 i) from by rw [hx1 88 (by decide)]]
                    refine x_iast (k := 89) hx hb hw (by decide) rfl (vin (N := 16) (by omega) rfl (by omega)) d_M_rank_233 (fun H locs hw => ?_)
                    rw [nI_clamp (n := rbN u w q n i b) (by omega)] at hw
                    refine lv_iinc (v := (nI (i + 1))) (lv' := [(2, .int (nI (i + 1))), (6, .int (nI b)), (4, .long (scM u q j n)), (3, .int (nI (rbN u w q n i b))), (0, .ref (ad 75)), (1, .int (nI q))]) hx hb d_M_rank_234 hl (k := 3) rfl (nI_1 _) (by decide) rfl (fun ls hl => ?_)
                    refine lv_goto (tgt := 142) hx hb d_M_rank_237 (by decide) ?_
                    exact ih142 (i + 1) ((sI x 89 (rbN u w q n i b) (w.1 88 i))) (by omega) (by rw [← hv3]; rfl) (fun y hy => by rw [sI_ne hy]; exact hx1 y hy) (hx2) (by omega) _ _ hw ls (lv_sub hl [0, 4, 5] rfl)
                  · have h174 : ¬ (b) ≤ (k) := fun hz9 => c174 ((nI_leI (a := b) (b := k) (by omega) (by omega)).mpr hz9)
                    obtain ⟨j2, hj2, hij2⟩ := hcw k (by omega)
                    refine lv_aload_n hx hb d_M_rank_177 rfl (lv_at hl 4 rfl) ?_
                    refine lv_iload_n hx hb d_M_rank_178 rfl (lv_at hl 5 rfl) ?_
                    refine lv_aload_n hx hb d_M_rank_179 rfl (lv_at hl 4 rfl) ?_
                    refine x_get (ci := 7) (k := 75) hx hb ht in_M hown hw (by decide) o_M rfl 15 (by decide) (ht _ w_501) rfl d_M_rank_180 ?_
                    refine lv_iload hx hb d_M_rank_183 (lv_at hl 0 rfl) ?_
                    refine x_iald (k := 88) hx hb hw (by decide) rfl (vin (N := 16) (by omega) rfl (by omega)) d_M_rank_185 ?_
                    rw [nI_clamp (n := k) (by omega)]
                    rw [show (x.1 88 k) = (nI j2) from by rw [hx1 88 (by decide)]; exact hij2]
                    refine x_cl (x_runV (na := 2) (k := 75) (As := [.int (nI q), .int (nI j2)]) (rest := []) (ci := 7) ⟨hx, hb, hml, hown, ht⟩ (m_M_scoreOf (u := x) q j2 n hq hj2 hn4 (by rw [hx2, hwf 11 (by decide)]; exact hs) (fun t ht9 j hj => by rw [hx1 81 (by decide), hwc 81 (by decide)]; exact hK3 t ht9 j hj) _) w_641 w_643 s_25 w_9 w_644 (by decide +kernel) ⟨rfl, rfl, by decide, by decide⟩ hw (by decide) o_M rfl rfl hl.1 rfl (Nat.le_of_ble_eq_true rfl) d_M_rank_186 ⟨Nat.zero_le _, Nat.zero_le _⟩) hw hA (fun v186 u186 H locs hp hw => ?_)
                    obtain ⟨hv9, hu⟩ := hp
                    rw [hv9]
                    have hu := hu.symm
                    subst hu
                    rw [show (scM x q j2 n) = (scM u q j2 n) from scM_eq (fun y hy hy2 => by rw [hx1 y hy2, hwc y hy]) (by rw [hx2, hw2])]
                    refine lv_lstore (lv' := [(7, .long (scM u q j2 n)), (6, .int (nI k)), (4, .long (scM u q j n)), (3, .int (nI (rbN u w q n i k))), (2, .int (nI i)), (0, .ref (ad 75)), (1, .int (nI q))]) hx hb d_M_rank_189 hl (by decide) rfl (fun ls hl => ?_)
                    refine lv_lload hx hb d_M_rank_191 (lv_at hl 0 rfl) ?_
                    refine lv_lload hx hb d_M_rank_193 (lv_at hl 2 rfl) ?_
                    refine W.lcmp hx hb d_M_rank_195 ?_
                    refine lv_if_gt (tgt := 213) hx hb d_M_rank_196 (by decide) (fun c196 => ?_) (fun c196 => ?_)
                    · refine lv_iinc (v := (nI (rbN u w q n i k + 1))) (lv' := [(3, .int (nI (rbN u w q n i k + 1))), (7, .long (scM u q j2 n)), (6, .int (nI k)), (4, .long (scM u q j n)), (2, .int (nI i)), (0, .ref (ad 75)), (1, .int (nI q))]) hx hb d_M_rank_213 hl (k := 3) rfl (nI_1 _) (by decide) rfl (fun ls hl => ?_)
                      refine lv_iinc (v := (nI (k + 1))) (lv' := [(6, .int (nI (k + 1))), (3, .int (nI (rbN u w q n i k + 1))), (7, .long (scM u q j2 n)), (4, .long (scM u q j n)), (2, .int (nI i)), (0, .ref (ad 75)), (1, .int (nI q))]) hx hb d_M_rank_216 hl (k := 2) rfl (nI_1 _) (by decide) rfl (fun ls hl => ?_)
                      refine lv_goto (tgt := 168) hx hb d_M_rank_219 (by decide) ?_
                      exact ih168 (k + 1) (by omega) (by omega) _ _ hw ls (by rw [← (show (nI (rbN u w q n i k + 1)) = (nI (rbN u w q n i (k + 1))) from (by simp only [rbN]; rw [hij, hij2, nI_clamp (by omega), nI_clamp (by omega)]; first | (rw [if_pos c196]; done) | (rw [if_neg c196, if_neg c204]; done) | (rw [if_neg c196, if_pos c204, if_neg (by omega)]; done) | (rw [if_neg c196, if_pos c204, if_pos (by omega)]; done)))]; exact lv_sub hl [0, 3, 1, 4, 5, 6] rfl)
                    · refine lv_lload hx hb d_M_rank_199 (lv_at hl 0 rfl) ?_
                      refine lv_lload hx hb d_M_rank_201 (lv_at hl 2 rfl) ?_
                      refine W.lcmp hx hb d_M_rank_203 ?_
                      refine lv_if_ne (tgt := 216) hx hb d_M_rank_204 (by decide) (fun c204 => ?_) (fun c204 => ?_)
                      · refine lv_iinc (v := (nI (k + 1))) (lv' := [(6, .int (nI (k + 1))), (7, .long (scM u q j2 n)), (4, .long (scM u q j n)), (3, .int (nI (rbN u w q n i k))), (2, .int (nI i)), (0, .ref (ad 75)), (1, .int (nI q))]) hx hb d_M_rank_216 hl (k := 1) rfl (nI_1 _) (by decide) rfl (fun ls hl => ?_)
                        refine lv_goto (tgt := 168) hx hb d_M_rank_219 (by decide) ?_
                        exact ih168 (k + 1) (by omega) (by omega) _ _ hw ls (by rw [← (show (nI (rbN u w q n i k)) = (nI (rbN u w q n i (k + 1))) from (by simp only [rbN]; rw [hij, hij2, nI_clamp (by omega), nI_clamp (by omega)]; first | (rw [if_pos c196]; done) | (rw [if_neg c196, if_neg c204]; done) | (rw [if_neg c196, if_pos c204, if_neg (by omega)]; done) | (rw [if_neg c196, if_pos c204, if_pos (by omega)]; done)))]; exact lv_sub hl [0, 2, 3, 4, 5, 6] rfl)
                      · refine lv_iload hx hb d_M_rank_207 (lv_at hl 1 rfl) ?_
                        refine lv_iload_n hx hb d_M_rank_209 rfl (lv_at hl 4 rfl) ?_
                        refine lv_icmp_ge (tgt := 216) hx hb d_M_rank_210 (by decide) (fun c210 => ?_) (fun c210 => ?_)
                        · have h210 : (i) ≤ (k) := (nI_leI (a := i) (b := k) (by omega) (by omega)).mp c210
                          refine lv_iinc (v := (nI (k + 1))) (lv' := [(6, .int (nI (k + 1))), (7, .long (scM u q j2 n)), (4, .long (scM u q j n)), (3, .int (nI (rbN u w q n i k))), (2, .int (nI i)), (0, .ref (ad 75)), (1, .int (nI q))]) hx hb d_M_rank_216 hl (k := 1) rfl (nI_1 _) (by decide) rfl (fun ls hl => ?_)
                          refine lv_goto (tgt := 168) hx hb d_M_rank_219 (by decide) ?_
                          exact ih168 (k + 1) (by omega) (by omega) _ _ hw ls (by rw [← (show (nI (rbN u w q n i k)) = (nI (rbN u w q n i (k + 1))) from (by simp only [rbN]; rw [hij, hij2, nI_clamp (by omega), nI_clamp (by omega)]; first | (rw [if_pos c196]; done) | (rw [if_neg c196, if_neg c204]; done) | (rw [if_neg c196, if_pos c204, if_neg (by omega)]; done) | (rw [if_neg c196, if_pos c204, if_pos (by omega)]; done)))]; exact lv_sub hl [0, 2, 3, 4, 5, 6] rfl)
                        · have h210 : ¬ (i) ≤ (k) := fun hz9 => c210 ((nI_leI (a := i) (b := k) (by omega) (by omega)).mpr hz9)
                          refine lv_iinc (v := (nI (rbN u w q n i k + 1))) (lv' := [(3, .int (nI (rbN u w q n i k + 1))), (7, .long (scM u q j2 n)), (6, .int (nI k)), (4, .long (scM u q j n)), (2, .int (nI i)), (0, .ref (ad 75)), (1, .int (nI q))]) hx hb d_M_rank_213 hl (k := 3) rfl (nI_1 _) (by decide) rfl (fun ls hl => ?_)
                          refine lv_iinc (v := (nI (k + 1))) (lv' := [(6, .int (nI (k + 1))), (3, .int (nI (rbN u w q n i k + 1))), (7, .long (scM u q j2 n)), (4, .long (scM u q j n)), (2, .int (nI i)), (0, .ref (ad 75)), (1, .int (nI q))]) hx hb d_M_rank_216 hl (k := 2) rfl (nI_1 _) (by decide) rfl (fun ls hl => ?_)
                          refine lv_goto (tgt := 168) hx hb d_M_rank_219 (by decide) ?_
                          exact ih168 (k + 1) (by omega) (by omega) _ _ hw ls (by rw [← (show (nI (rbN u w q n i k + 1)) = (nI (rbN u w q n i (k + 1))) from (by simp only [rbN]; rw [hij, hij2, nI_clamp (by omega), nI_clamp (by omega)]; first | (rw [if_pos c196]; done) | (rw [if_neg c196, if_neg c204]; done) | (rw [if_neg c196, if_pos c204, if_neg (by omega)]; done) | (rw [if_neg c196, if_pos c204, if_pos (by omega)]; done)))]; exact lv_sub hl [0, 3, 1, 4, 5, 6] rfl)
              exact L168 ((b - 0) + 1) (0) (by omega) (by omega) _ _ hw ls (lv_sub hl [0, 1, 2, 3, 4, 5] rfl)
        exact L142 ((b - 0) + 1) (0) (w) (by omega) (rfl) (fun _ _ => rfl) (rfl) (by omega) _ _ hw ls (lv_sub hl [0, 1, 2] rfl)
      · have h12 : ¬ (a) ≤ (o1) := fun hz9 => c12 ((nI_leI (a := a) (b := o1) (by omega) (by omega)).mpr hz9)
        refine lv_iconst (v := 0) hx hb d_M_rank_15 (by decide) ?_
        refine lv_istore_n (lv' := [(3, .int 0), (2, .int (nI o1)), (0, .ref (ad 75)), (1, .int (nI q))]) hx hb d_M_rank_16 rfl hl (by decide) rfl (fun ls hl => ?_)
        have L17 : ∀ (n17 : Nat) (d : Nat) (r : St), d ≤ 16 → caR u q o1 w d = r → 16 - d < n17 → ∀ (H : Heap) (locs : List Loc), XH D g ad (AX ad sz) s s.heap H locs r → ∀ ls : Array Slot, lv_has ls 9 [(3, .int (nI d)), (2, .int (nI o1)), (0, .ref (ad 75)), (1, .int (nI q))] → W p l e (rmN 2 55) s m ([.ref (ad 75), .int (nI q)] : List Value).toArray below meth c H locs 0 0 (MQ below (va_Qv (fun z => z = rankM u q a n) (XB D g ad sz) (AX ad sz)) ([.ref (ad 75), .int (nI q)] : List Value).toArray s 0 0 (AX ad sz)) (F0 m 17 ls []) := by
          intro n17
          induction n17 with
          | zero => intro d r h2 hv2 hz; exact absurd hz (by omega)
          | succ n17 ih17 =>
            intro d r h2 hv2 hnL17 H locs hw ls hl
            refine lv_iload_n hx hb d_M_rank_17 rfl (lv_at hl 0 rfl) ?_
            refine lv_bipush (v := 16) hx hb d_M_rank_18 (by decide) ?_
            refine lv_icmp_ge (tgt := 134) hx hb d_M_rank_20 (by decide) (fun c20 => ?_) (fun c20 => ?_)
            · have h20 : (16) ≤ (d) := (nI_leI (a := 16) (b := d) (by omega) (by omega)).mp c20
              refine lv_iinc (v := (nI (o1 + 1))) (lv' := [(2, .int (nI (o1 + 1))), (3, .int (nI d)), (0, .ref (ad 75)), (1, .int (nI q))]) hx hb d_M_rank_134 hl (k := 1) rfl (nI_1 _) (by decide) rfl (fun ls hl => ?_)
              refine lv_goto (tgt := 7) hx hb d_M_rank_137 (by decide) ?_
              exact ih7 (o1 + 1) (r) (by omega) (by rw [← hv2, show d = 16 by omega, ← hv]; rfl) (by omega) _ _ hw ls (lv_sub hl [0, 2, 3] rfl)
            · have h20 : ¬ (16) ≤ (d) := fun hz9 => c20 ((nI_leI (a := 16) (b := d) (by omega) (by omega)).mpr hz9)
              obtain ⟨-, hrc, hr2, hrf, -⟩ : OKM u r := hv2 ▸ caR_ok (hv ▸ caA_ok u q hcd o1 (by omega)) (by omega) d (by omega)
              refine lv_aload_n hx hb d_M_rank_23 rfl (lv_at hl 2 rfl) ?_
              refine lv_iload_n hx hb d_M_rank_24 rfl (lv_at hl 3 rfl) ?_
              refine lv_iload_n hx hb d_M_rank_25 rfl (lv_at hl 0 rfl) ?_
              refine x_ci (x_runV (na := 2) (k := 75) (As := [.int (nI q), .int (nI d)]) (rest := []) (ci := 7) ⟨hx, hb, hml, hown, ht⟩ (m_M_found (u := r) q d hq (by omega) _) w_633 w_635 s_23 w_9 w_636 (by decide +kernel) ⟨rfl, rfl, by decide, by decide⟩ hw (by decide) o_M rfl rfl hl.1 rfl (Nat.le_of_ble_eq_true rfl) d_M_rank_26 ⟨Nat.zero_le _, Nat.zero_le _⟩) hw hA (fun v26 u26 H locs hp hw => ?_)
              obtain ⟨hv9, hu⟩ := hp
              rw [hv9]
              have hu := hu.symm
              subst hu
              rw [show (foundF r q d) = (foundF u q d) from found_eq hrc]
              refine lv_if_ne (tgt := 35) hx hb d_M_rank_29 (by decide) (fun c29 => ?_) (fun c29 => ?_)
              · refine lv_iconst (v := 0) hx hb d_M_rank_35 (by decide) ?_
                refine lv_istore (lv' := [(4, .int 0), (3, .int (nI d)), (2, .int (nI o1)), (0, .ref (ad 75)), (1, .int (nI q))]) hx hb d_M_rank_36 hl (by decide) rfl (fun ls hl => ?_)
                refine lv_iconst (v := 0) hx hb d_M_rank_38 (by decide) ?_
                refine lv_istore (lv' := [(5, .int 0), (4, .int 0), (3, .int (nI d)), (2, .int (nI o1)), (0, .ref (ad 75)), (1, .int (nI q))]) hx hb d_M_rank_39 hl (by decide) rfl (fun ls hl => ?_)
                have L41 : ∀ (n41 : Nat) (o : Nat), o ≤ 16 → 16 - o < n41 → ∀ (H : Heap) (locs : List Loc), XH D g ad (AX ad sz) s s.heap H locs r → ∀ ls : Array Slot, lv_has ls 9 [(5, .int (nI o)), (4, .int (nI (bfN u q d o))), (3, .int (nI d)), (2, .int (nI o1)), (0, .ref (ad 75)), (1, .int (nI q))] → W p l e (rmN 2 55) s m ([.ref (ad 75), .int (nI q)] : List Value).toArray below meth c H locs 0 0 (MQ below (va_Qv (fun z => z = rankM u q a n) (XB D g ad sz) (AX ad sz)) ([.ref (ad 75), .int (nI q)] : List Value).toArray s 0 0 (AX ad sz)) (F0 m 41 ls []) := by
                  intro n41
                  induction n41 with
                  | zero => intro o h3 hz; exact absurd hz (by omega)
                  | succ n41 ih41 =>
                    intro o h3 hnL41 H locs hw ls hl
                    refine lv_iload hx hb d_M_rank_41 (lv_at hl 0 rfl) ?_
                    refine lv_bipush (v := 16) hx hb d_M_rank_43 (by decide) ?_
                    refine lv_icmp_ge (tgt := 105) hx hb d_M_rank_45 (by decide) (fun c45 => ?_) (fun c45 => ?_)
                    · have h45 : (16) ≤ (o) := (nI_leI (a := 16) (b := o) (by omega) (by omega)).mp c45
                      have hbf := bfN_le u q d o
                      obtain rfl : o = 16 := by omega
                      refine lv_iload hx hb d_M_rank_105 (lv_at hl 1 rfl) ?_
                      refine lv_iload_n hx hb d_M_rank_107 rfl (lv_at hl 3 rfl) ?_
                      refine lv_icmp_eq (tgt := 114) hx hb d_M_rank_108 (by decide) (fun c108 => ?_) (fun c108 => ?_)
                      · have h108 : (bfN u q d 16) = (o1) := (nI_eq (a := bfN u q d 16) (b := o1) (by omega) (by omega)).mp c108
                        refine lv_aload_n hx hb d_M_rank_114 rfl (lv_at hl 4 rfl) ?_
                        refine x_get (ci := 7) (k := 75) hx hb ht in_M hown hw (by decide) o_M rfl 15 (by decide) (ht _ w_501) rfl d_M_rank_115 ?_
                        refine lv_iload_n hx hb d_M_rank_118 rfl (lv_at hl 3 rfl) ?_
                        refine lv_iload_n hx hb d_M_rank_119 rfl (lv_at hl 2 rfl) ?_
                        refine x_iast (k := 88) hx hb hw (by decide) rfl (vin (N := 16) (by omega) rfl (by omega)) d_M_rank_120 (fun H locs hw => ?_)
                        rw [nI_clamp (n := o1) (by omega)] at hw
                        refine lv_aload_n hx hb d_M_rank_121 rfl (lv_at hl 4 rfl) ?_
                        refine lv_iload_n hx hb d_M_rank_122 rfl (lv_at hl 3 rfl) ?_
                        refine lv_iconst (v := 1) hx hb d_M_rank_123 (by decide) ?_
                        refine lv_iadd hx hb d_M_rank_124 ?_
                        rw [show ((nI o1) + 1) = (nI (o1 + 1)) from nI_add _ _]
                        refine x_puti (ci := 7) (k := 75) hx hb ht in_M t_M t_M_ok n_M hown hw (by decide) o_M rfl 17 (13) (by decide) (ht _ w_503) rfl (by decide +kernel) (Nat.le_of_ble_eq_true rfl) rfl rfl d_M_rank_125 (fun H locs hw => ?_)
                        refine lv_iinc (v := (nI (d + 1))) (lv' := [(3, .int (nI (d + 1))), (5, .int (nI 16)), (4, .int (nI (bfN u q d 16))), (2, .int (nI o1)), (0, .ref (ad 75)), (1, .int (nI q))]) hx hb d_M_rank_128 hl (k := 2) rfl (nI_1 _) (by decide) rfl (fun ls hl => ?_)
                        refine lv_goto (tgt := 17) hx hb d_M_rank_131 (by decide) ?_
                        exact ih17 (d + 1) (caS u q o1 r d) (by omega) (by rw [← hv2]; rfl) (by omega) _ _ (by rw [show caS u q o1 r d = (sF (sI r 88 o1 (nI d)) 13 (nI (o1 + 1))) from by unfold caS; first | (rw [if_pos c29]; done) | (rw [if_neg c29, if_pos h108]; done) | (rw [if_neg c29, if_neg h108]; done)]; exact hw) ls (lv_sub hl [0, 3, 4, 5] rfl)
                      · have h108 : ¬ (bfN u q d 16) = (o1) := fun hz9 => c108 ((nI_eq (a := bfN u q d 16) (b := o1) (by omega) (by omega)).mpr hz9)
                        refine lv_goto (tgt := 128) hx hb d_M_rank_111 (by decide) ?_
                        refine lv_iinc (v := (nI (d + 1))) (lv' := [(3, .int (nI (d + 1))), (5, .int (nI 16)), (4, .int (nI (bfN u q d 16))), (2, .int (nI o1)), (0, .ref (ad 75)), (1, .int (nI q))]) hx hb d_M_rank_128 hl (k := 2) rfl (nI_1 _) (by decide) rfl (fun ls hl => ?_)
                        refine lv_goto (tgt := 17) hx hb d_M_rank_131 (by decide) ?_
                        exact ih17 (d + 1) (caS u q o1 r d) (by omega) (by rw [← hv2]; rfl) (by omega) _ _ (by rw [show caS u q o1 r d = r from by unfold caS; first | (rw [if_pos c29]; done) | (rw [if_neg c29, if_pos h108]; done) | (rw [if_neg c29, if_neg h108]; done)]; exact hw) ls (lv_sub hl [0, 3, 4, 5] rfl)
                    · have h45 : ¬ (16) ≤ (o) := fun hz9 => c45 ((nI_leI (a := 16) (b := o) (by omega) (by omega)).mpr hz9)
                      refine lv_aload_n hx hb d_M_rank_48 rfl (lv_at hl 4 rfl) ?_
                      refine lv_iload_n hx hb d_M_rank_49 rfl (lv_at hl 5 rfl) ?_
                      refine lv_iload hx hb d_M_rank_50 (lv_at hl 0 rfl) ?_
                      refine x_ci (x_runV (na := 2) (k := 75) (As := [.int (nI q), .int (nI o)]) (rest := []) (ci := 7) ⟨hx, hb, hml, hown, ht⟩ (m_M_found (u := r) q o hq (by omega) _) w_633 w_635 s_23 w_9 w_636 (by decide +kernel) ⟨rfl, rfl, by decide, by decide⟩ hw (by decide) o_M rfl rfl hl.1 rfl (Nat.le_of_ble_eq_true rfl) d_M_rank_52 ⟨Nat.zero_le _, Nat.zero_le _⟩) hw hA (fun v52 u52 H locs hp hw => ?_)
                      obtain ⟨hv9, hu⟩ := hp
                      rw [hv9]
                      have hu := hu.symm
                      subst hu
                      rw [show (foundF r q o) = (foundF u q o) from found_eq hrc]
                      refine lv_if_eq (tgt := 99) hx hb d_M_rank_55 (by decide) (fun c55 => ?_) (fun c55 => ?_)
                      · refine lv_iinc (v := (nI (o + 1))) (lv' := [(5, .int (nI (o + 1))), (4, .int (nI (bfN u q d o))), (3, .int (nI d)), (2, .int (nI o1)), (0, .ref (ad 75)), (1, .int (nI q))]) hx hb d_M_rank_99 hl (k := 0) rfl (nI_1 _) (by decide) rfl (fun ls hl => ?_)
                        refine lv_goto (tgt := 41) hx hb d_M_rank_102 (by decide) ?_
                        exact ih41 (o + 1) (by omega) (by omega) _ _ hw ls (by rw [← (show (nI (bfN u q d o)) = (nI (bfN u q d (o + 1))) from (by simp only [bfN]; first | (rw [if_pos c55]; done) | (rw [if_neg c55, if_pos c71]; done) | (rw [if_neg c55, if_neg c71, if_neg c87]; done) | (rw [if_neg c55, if_neg c71, if_pos c87, if_neg (by omega)]; done) | (rw [if_neg c55, if_neg c71, if_pos c87, if_pos (by omega)]; done)))]; exact lv_sub hl [0, 1, 2, 3, 4, 5] rfl)
                      · refine lv_aload_n hx hb d_M_rank_58 rfl (lv_at hl 4 rfl) ?_
                        refine lv_iload_n hx hb d_M_rank_59 rfl (lv_at hl 5 rfl) ?_
                        refine lv_iload hx hb d_M_rank_60 (lv_at hl 0 rfl) ?_
                        refine x_ci (x_runV (na := 2) (k := 75) (As := [.int (nI q), .int (nI o)]) (rest := []) (ci := 7) ⟨hx, hb, hml, hown, ht⟩ (m_M_plain (u := r) q o hq (by omega) _) w_637 w_639 s_24 w_9 w_640 (by decide +kernel) ⟨rfl, rfl, by decide, by decide⟩ hw (by decide) o_M rfl rfl hl.1 rfl (Nat.le_of_ble_eq_true rfl) d_M_rank_62 ⟨Nat.zero_le _, Nat.zero_le _⟩) hw hA (fun v62 u62 H locs hp hw => ?_)
                        obtain ⟨hv9, hu⟩ := hp
                        rw [hv9]
                        have hu := hu.symm
                        subst hu
                        rw [show (plainF r q o) = (plainF u q o) from plain_eq hrc]
                        refine lv_aload_n hx hb d_M_rank_65 rfl (lv_at hl 4 rfl) ?_
                        refine lv_iload_n hx hb d_M_rank_66 rfl (lv_at hl 5 rfl) ?_
                        refine lv_iload_n hx hb d_M_rank_67 rfl (lv_at hl 2 rfl) ?_
                        refine x_ci (x_runV (na := 2) (k := 75) (As := [.int (nI q), .int (nI d)]) (rest := [.int (plainF u q o)]) (ci := 7) ⟨hx, hb, hml, hown, ht⟩ (m_M_plain (u := r) q d hq (by omega) _) w_637 w_639 s_24 w_9 w_640 (by decide +kernel) ⟨rfl, rfl, by decide, by decide⟩ hw (by decide) o_M rfl rfl hl.1 rfl (Nat.le_of_ble_eq_true rfl) d_M_rank_68 ⟨Nat.zero_le _, Nat.zero_le _⟩) hw hA (fun v68 u68 H locs hp hw => ?_)
                        obtain ⟨hv9, hu⟩ := hp
                        rw [hv9]
                        have hu := hu.symm
                        subst hu
                        rw [show (plainF r q d) = (plainF u q d) from plain_eq hrc]
                        refine lv_icmp_gt (tgt := 96) hx hb d_M_rank_71 (by decide) (fun c71 => ?_) (fun c71 => ?_)
                        · refine lv_iinc (v := (nI (bfN u q d o + 1))) (lv' := [(4, .int (nI (bfN u q d o + 1))), (5, .int (nI o)), (3, .int (nI d)), (2, .int (nI o1)), (0, .ref (ad 75)), (1, .int (nI q))]) hx hb d_M_rank_96 hl (k := 1) rfl (nI_1 _) (by decide) rfl (fun ls hl => ?_)
                          refine lv_iinc (v := (nI (o + 1))) (lv' := [(5, .int (nI (o + 1))), (4, .int (nI (bfN u q d o + 1))), (3, .int (nI d)), (2, .int (nI o1)), (0, .ref (ad 75)), (1, .int (nI q))]) hx hb d_M_rank_99 hl (k := 1) rfl (nI_1 _) (by decide) rfl (fun ls hl => ?_)
                          refine lv_goto (tgt := 41) hx hb d_M_rank_102 (by decide) ?_
                          exact ih41 (o + 1) (by omega) (by omega) _ _ hw ls (by rw [← (show (nI (bfN u q d o + 1)) = (nI (bfN u q d (o + 1))) from (by simp only [bfN]; first | (rw [if_pos c55]; done) | (rw [if_neg c55, if_pos c71]; done) | (rw [if_neg c55, if_neg c71, if_neg c87]; done) | (rw [if_neg c55, if_neg c71, if_pos c87, if_neg (by omega)]; done) | (rw [if_neg c55, if_neg c71, if_pos c87, if_pos (by omega)]; done)))]; exact lv_sub hl [0, 1, 2, 3, 4, 5] rfl)
                        · refine lv_aload_n hx hb d_M_rank_74 rfl (lv_at hl 4 rfl) ?_
                          refine lv_iload_n hx hb d_M_rank_75 rfl (lv_at hl 5 rfl) ?_
                          refine lv_iload hx hb d_M_rank_76 (lv_at hl 0 rfl) ?_
                          refine x_ci (x_runV (na := 2) (k := 75) (As := [.int (nI q), .int (nI o)]) (rest := []) (ci := 7) ⟨hx, hb, hml, hown, ht⟩ (m_M_plain (u := r) q o hq (by omega) _) w_637 w_639 s_24 w_9 w_640 (by decide +kernel) ⟨rfl, rfl, by decide, by decide⟩ hw (by decide) o_M rfl rfl hl.1 rfl (Nat.le_of_ble_eq_true rfl) d_M_rank_78 ⟨Nat.zero_le _, Nat.zero_le _⟩) hw hA (fun v78 u78 H locs hp hw => ?_)
                          obtain ⟨hv9, hu⟩ := hp
                          rw [hv9]
                          have hu := hu.symm
                          subst hu
                          rw [show (plainF r q o) = (plainF u q o) from plain_eq hrc]
                          refine lv_aload_n hx hb d_M_rank_81 rfl (lv_at hl 4 rfl) ?_
                          refine lv_iload_n hx hb d_M_rank_82 rfl (lv_at hl 5 rfl) ?_
                          refine lv_iload_n hx hb d_M_rank_83 rfl (lv_at hl 2 rfl) ?_
                          refine x_ci (x_runV (na := 2) (k := 75) (As := [.int (nI q), .int (nI d)]) (rest := [.int (plainF u q o)]) (ci := 7) ⟨hx, hb, hml, hown, ht⟩ (m_M_plain (u := r) q d hq (by omega) _) w_637 w_639 s_24 w_9 w_640 (by decide +kernel) ⟨rfl, rfl, by decide, by decide⟩ hw (by decide) o_M rfl rfl hl.1 rfl (Nat.le_of_ble_eq_true rfl) d_M_rank_84 ⟨Nat.zero_le _, Nat.zero_le _⟩) hw hA (fun v84 u84 H locs hp hw => ?_)
                          obtain ⟨hv9, hu⟩ := hp
                          rw [hv9]
                          have hu := hu.symm
                          subst hu
                          rw [show (plainF r q d) = (plainF u q d) from plain_eq hrc]
                          refine lv_icmp_ne (tgt := 99) hx hb d_M_rank_87 (by decide) (fun c87 => ?_) (fun c87 => ?_)
                          · refine lv_iinc (v := (nI (o + 1))) (lv' := [(5, .int (nI (o + 1))), (4, .int (nI (bfN u q d o))), (3, .int (nI d)), (2, .int (nI o1)), (0, .ref (ad 75)), (1, .int (nI q))]) hx hb d_M_rank_99 hl (k := 0) rfl (nI_1 _) (by decide) rfl (fun ls hl => ?_)
                            refine lv_goto (tgt := 41) hx hb d_M_rank_102 (by decide) ?_
                            exact ih41 (o + 1) (by omega) (by omega) _ _ hw ls (by rw [← (show (nI (bfN u q d o)) = (nI (bfN u q d (o + 1))) from (by simp only [bfN]; first | (rw [if_pos c55]; done) | (rw [if_neg c55, if_pos c71]; done) | (rw [if_neg c55, if_neg c71, if_neg c87]; done) | (rw [if_neg c55, if_neg c71, if_pos c87, if_neg (by omega)]; done) | (rw [if_neg c55, if_neg c71, if_pos c87, if_pos (by omega)]; done)))]; exact lv_sub hl [0, 1, 2, 3, 4, 5] rfl)
                          · refine lv_iload hx hb d_M_rank_90 (lv_at hl 0 rfl) ?_
                            refine lv_iload_n hx hb d_M_rank_92 rfl (lv_at hl 2 rfl) ?_
                            refine lv_icmp_ge (tgt := 99) hx hb d_M_rank_93 (by decide) (fun c93 => ?_) (fun c93 => ?_)
                            · have h93 : (d) ≤ (o) := (nI_leI (a := d) (b := o) (by omega) (by omega)).mp c93
                              refine lv_iinc (v := (nI (o + 1))) (lv' := [(5, .int (nI (o + 1))), (4, .int (nI (bfN u q d o))), (3, .int (nI d)), (2, .int (nI o1)), (0, .ref (ad 75)), (1, .int (nI q))]) hx hb d_M_rank_99 hl (k := 0) rfl (nI_1 _) (by decide) rfl (fun ls hl => ?_)
                              refine lv_goto (tgt := 41) hx hb d_M_rank_102 (by decide) ?_
                              exact ih41 (o + 1) (by omega) (by omega) _ _ hw ls (by rw [← (show (nI (bfN u q d o)) = (nI (bfN u q d (o + 1))) from (by simp only [bfN]; first | (rw [if_pos c55]; done) | (rw [if_neg c55, if_pos c71]; done) | (rw [if_neg c55, if_neg c71, if_neg c87]; done) | (rw [if_neg c55, if_neg c71, if_pos c87, if_neg (by omega)]; done) | (rw [if_neg c55, if_neg c71, if_pos c87, if_pos (by omega)]; done)))]; exact lv_sub hl [0, 1, 2, 3, 4, 5] rfl)
                            · have h93 : ¬ (d) ≤ (o) := fun hz9 => c93 ((nI_leI (a := d) (b := o) (by omega) (by omega)).mpr hz9)
                              refine lv_iinc (v := (nI (bfN u q d o + 1))) (lv' := [(4, .int (nI (bfN u q d o + 1))), (5, .int (nI o)), (3, .int (nI d)), (2, .int (nI o1)), (0, .ref (ad 75)), (1, .int (nI q))]) hx hb d_M_rank_96 hl (k := 1) rfl (nI_1 _) (by decide) rfl (fun ls hl => ?_)
                              refine lv_iinc (v := (nI (o + 1))) (lv' := [(5, .int (nI (o + 1))), (4, .int (nI (bfN u q d o + 1))), (3, .int (nI d)), (2, .int (nI o1)), (0, .ref (ad 75)), (1, .int (nI q))]) hx hb d_M_rank_99 hl (k := 1) rfl (nI_1 _) (by decide) rfl (fun ls hl => ?_)
                              refine lv_goto (tgt := 41) hx hb d_M_rank_102 (by decide) ?_
                              exact ih41 (o + 1) (by omega) (by omega) _ _ hw ls (by rw [← (show (nI (bfN u q d o + 1)) = (nI (bfN u q d (o + 1))) from (by simp only [bfN]; first | (rw [if_pos c55]; done) | (rw [if_neg c55, if_pos c71]; done) | (rw [if_neg c55, if_neg c71, if_neg c87]; done) | (rw [if_neg c55, if_neg c71, if_pos c87, if_neg (by omega)]; done) | (rw [if_neg c55, if_neg c71, if_pos c87, if_pos (by omega)]; done)))]; exact lv_sub hl [0, 1, 2, 3, 4, 5] rfl)
                exact L41 ((16 - 0) + 1) (0) (by omega) (by omega) _ _ hw ls (lv_sub hl [0, 1, 2, 3, 4, 5] rfl)
              · refine lv_goto (tgt := 128) hx hb d_M_rank_32 (by decide) ?_
                refine lv_iinc (v := (nI (d + 1))) (lv' := [(3, .int (nI (d + 1))), (2, .int (nI o1)), (0, .ref (ad 75)), (1, .int (nI q))]) hx hb d_M_rank_128 hl (k := 0) rfl (nI_1 _) (by decide) rfl (fun ls hl => ?_)
                refine lv_goto (tgt := 17) hx hb d_M_rank_131 (by decide) ?_
                exact ih17 (d + 1) (caS u q o1 r d) (by omega) (by rw [← hv2]; rfl) (by omega) _ _ (by rw [show caS u q o1 r d = r from by unfold caS; first | (rw [if_pos c29]; done) | (rw [if_neg c29, if_pos h108]; done) | (rw [if_neg c29, if_neg h108]; done)]; exact hw) ls (lv_sub hl [0, 1, 2, 3] rfl)
        exact L17 ((16 - 0) + 1) (0) (w) (by omega) (rfl) (by omega) _ _ hw ls (lv_sub hl [0, 1, 2, 3] rfl)
  exact L7 ((a - 0) + 1) (0) ((sF u 13 0)) (by omega) (rfl) (by omega) _ _ hw ls (lv_sub hl [0, 1, 2] rfl))
