theorem neg_ix {x : Int32} (h1 : ¬ 0 ≤ x) (h2 : ¬ x < -8) : ∃ j : Nat, j < 8 ∧ -1 - x = nI j := by
  have a1 := ltz h1
  rw [Int32.lt_iff_toInt_lt] at a1 h2
  have e0 : (0 : Int32).toInt = 0 := rfl
  have e8 : (-8 : Int32).toInt = -8 := rfl
  rw [e0] at a1
  rw [e8] at h2
  refine ⟨(-1 - x.toInt).toNat, by omega, ?_⟩
  apply Int32.toInt_inj.mp
  rw [nI_toInt (by omega), Int32.toInt_sub]
  have e1 : (-1 : Int32).toInt = -1 := rfl
  rw [e1]
  have : (((-1 - x.toInt).toNat : Nat) : Int) = -1 - x.toInt := by omega
  rw [this]
  exact Int.bmod_eq_of_le (by omega) (by omega)
def c1F (u : St) (x : Int32) : Nat → Int32
  | 0 => 0
  | t + 1 => if u.1 76 t = 0 then c1F u x t else if x = 1000 then (if x = 0 then c1F u x t + 1 else c1F u x t) + ftM u 0 t 2 else (if x = 0 then c1F u x t + 1 else c1F u x t)
def c2S (u : St) (x : Int32) (j : Nat) (a : Int32) : Int32 := if x = 1 then a + 1 else if x = 2 then (if u.1 76 (j % 16) = 0 then a else a + 1) else a
def c2F (u : St) (x : Int32) : Nat → Int32
  | 0 => c1F u x 16
  | j + 1 => if 0 ≤ u.1 80 j then (if x = 10000 then (if x = 1 then c2F u x j + 1 else if x = 2 then (if u.1 76 (j % 16) = 0 then c2F u x j else c2F u x j + 1) else c2F u x j) + u.1 80 j else (if x = 1 then c2F u x j + 1 else if x = 2 then (if u.1 76 (j % 16) = 0 then c2F u x j else c2F u x j + 1) else c2F u x j)) else c2F u x j
def cntT (u : St) (x : Int32) (n : Nat) : Int32 := if x = 3 then u.2.2.1 11 else if x = 4 then u.2.2.1 10 else if x = 5 then eqcF (u.1 81) 2 (n * 7) else -1000
def cntM (u : St) (x : Int32) (n : Nat) : Int32 × St := if x < 0 ∧ ¬ x < -8 then (u.1 79 (-1 - x).toNatClampNeg, u) else if x < 0 then (if x = 1000 then (c2F u x 128, u) else if x = 10000 then (c2F u x 128, u) else (cntT u x n, u)) else if x < 3 then (c2F u x 128, u) else if x = 1000 then (c2F u x 128, u) else if x = 10000 then (c2F u x 128, u) else (cntT u x n, u)
set_option maxHeartbeats 4000000 in
set_option maxRecDepth 100000 in
theorem m_M_count {l : Launch} {D : va_G} {g : Ids} {ad : Nat → Nat} {u : St} (x : Int32) (n : Nat) (hn4 : n ≤ 4) (hs : u.2.2.1 11 = nI n) : XMi l D g ad y_M_count b_M_count 4 ((some .int)) (rmN 1 29) [.ref (ad 75), .int x] u (fun v w => (v, w) = cntM u x n) := fun sz => x_met (by decide) (Nat.le_of_ble_eq_true rfl) (fun p e s m below meth c hsz hx hb hr hml hown ht hlk hw ls hl => by
  have hA : ∀ q, s.heap.size ≤ q → AX ad sz q := fun q h => Or.inr (hsz ▸ h)
  have hl : lv_has ls 4 [(0, .ref (ad 75)), (1, .int x)] := hl
  refine lv_iload_n hx hb d_M_count_0 rfl (lv_at hl 1 rfl) ?_
  refine lv_if_ge (tgt := 19) hx hb d_M_count_1 (by decide) (fun c1 => ?_) (fun c1 => ?_)
  · refine lv_iconst (v := 0) hx hb d_M_count_19 (by decide) ?_
    refine lv_istore_n (lv' := [(2, .int 0), (0, .ref (ad 75)), (1, .int x)]) hx hb d_M_count_20 rfl hl (by decide) rfl (fun ls hl => ?_)
    refine lv_iconst (v := 0) hx hb d_M_count_21 (by decide) ?_
    refine lv_istore_n (lv' := [(3, .int 0), (2, .int 0), (0, .ref (ad 75)), (1, .int x)]) hx hb d_M_count_22 rfl hl (by decide) rfl (fun ls hl => ?_)
    have L23 : ∀ (n23 : Nat) (t : Nat), t ≤ 16 → 16 - t < n23 → ∀ (H : Heap) (locs : List Loc), XH D g ad (AX ad sz) s s.heap H locs u → ∀ ls : Array Slot, lv_has ls 4 [(3, .int (nI t)), (2, .int (c1F u x t)), (0, .ref (ad 75)), (1, .int x)] → W p l e (rmN 1 29) s m ([.ref (ad 75), .int x] : List Value).toArray below meth c H locs 0 0 (MQ below (va_Qi (fun v w => (v, w) = cntM u x n) (XB D g ad sz) (AX ad sz)) ([.ref (ad 75), .int x] : List Value).toArray s 0 0 (AX ad sz)) (F0 m 23 ls []) := by
      intro n23
      induction n23 with
      | zero => intro t h1 hz; exact absurd hz (by omega)
      | succ n23 ih23 =>
        intro t h1 hnL23 H locs hw ls hl
        refine lv_iload_n hx hb d_M_count_23 rfl (lv_at hl 0 rfl) ?_
        refine lv_bipush (v := 16) hx hb d_M_count_24 (by decide) ?_
        refine lv_icmp_ge (tgt := 71) hx hb d_M_count_26 (by decide) (fun c26 => ?_) (fun c26 => ?_)
        · have h26 : (16) ≤ (t) := (nI_leI (a := 16) (b := t) (by omega) (by omega)).mp c26
          refine lv_iconst (v := 0) hx hb d_M_count_71 (by decide) ?_
          refine lv_istore_n (lv' := [(3, .int 0), (2, .int (c1F u x t)), (0, .ref (ad 75)), (1, .int x)]) hx hb d_M_count_72 rfl hl (by decide) rfl (fun ls hl => ?_)
          have L73 : ∀ (n73 : Nat) (j : Nat), j ≤ 128 → 128 - j < n73 → ∀ (H : Heap) (locs : List Loc), XH D g ad (AX ad sz) s s.heap H locs u → ∀ ls : Array Slot, lv_has ls 4 [(3, .int (nI j)), (2, .int (c2F u x j)), (0, .ref (ad 75)), (1, .int x)] → W p l e (rmN 1 29) s m ([.ref (ad 75), .int x] : List Value).toArray below meth c H locs 0 0 (MQ below (va_Qi (fun v w => (v, w) = cntM u x n) (XB D g ad sz) (AX ad sz)) ([.ref (ad 75), .int x] : List Value).toArray s 0 0 (AX ad sz)) (F0 m 73 ls []) := by
            intro n73
            induction n73 with
            | zero => intro j h2 hz; exact absurd hz (by omega)
            | succ n73 ih73 =>
              intro j h2 hnL73 H locs hw ls hl
              refine lv_iload_n hx hb d_M_count_73 rfl (lv_at hl 0 rfl) ?_
              refine lv_sipush (v := 128) hx hb d_M_count_74 (by decide) ?_
              refine lv_icmp_ge (tgt := 139) hx hb d_M_count_77 (by decide) (fun c77 => ?_) (fun c77 => ?_)
              · have h77 : (128) ≤ (j) := (nI_leI (a := 128) (b := j) (by omega) (by omega)).mp c77
                refine lv_iload_n hx hb d_M_count_139 rfl (lv_at hl 3 rfl) ?_
                refine lv_if_lt (tgt := 148) hx hb d_M_count_140 (by decide) (fun c140 => ?_) (fun c140 => ?_)
                · refine lv_iload_n hx hb d_M_count_148 rfl (lv_at hl 3 rfl) ?_
                  refine lv_sipush (v := 1000) hx hb d_M_count_149 (by decide) ?_
                  refine lv_icmp_eq (tgt := 162) hx hb d_M_count_152 (by decide) (fun c152 => ?_) (fun c152 => ?_)
                  · refine lv_iload_n hx hb d_M_count_162 rfl (lv_at hl 1 rfl) ?_
                    exact x_iret hsz hx hb hr hlk hw (by have hj8 : j = 128 := (by omega); (try rw [hj8]); clear hl hw hA ht; (first | have c0 := gez c1 | have c0 := ltz c1); unfold cntM cntT; first | (simp only [c0, c1, c26, c77, c140, c152, false_and, and_false, not_true_eq_false, not_false_eq_true, and_self, if_true, if_false, reduceIte]; done) | (subst x; revert c0; decide) | (simp_all; done)) d_M_count_163
                  · refine lv_iload_n hx hb d_M_count_155 rfl (lv_at hl 3 rfl) ?_
                    refine lv_sipush (v := 10000) hx hb d_M_count_156 (by decide) ?_
                    refine lv_icmp_ne (tgt := 164) hx hb d_M_count_159 (by decide) (fun c159 => ?_) (fun c159 => ?_)
                    · refine lv_iload_n hx hb d_M_count_164 rfl (lv_at hl 3 rfl) ?_
                      refine lv_iconst (v := 3) hx hb d_M_count_165 (by decide) ?_
                      refine lv_icmp_ne (tgt := 174) hx hb d_M_count_166 (by decide) (fun c166 => ?_) (fun c166 => ?_)
                      · refine lv_iload_n hx hb d_M_count_174 rfl (lv_at hl 3 rfl) ?_
                        refine lv_iconst (v := 4) hx hb d_M_count_175 (by decide) ?_
                        refine lv_icmp_ne (tgt := 184) hx hb d_M_count_176 (by decide) (fun c176 => ?_) (fun c176 => ?_)
                        · refine lv_iload_n hx hb d_M_count_184 rfl (lv_at hl 3 rfl) ?_
                          refine lv_iconst (v := 5) hx hb d_M_count_185 (by decide) ?_
                          refine lv_icmp_ne (tgt := 197) hx hb d_M_count_186 (by decide) (fun c186 => ?_) (fun c186 => ?_)
                          · refine lv_sipush (v := (-1000)) hx hb d_M_count_197 (by decide) ?_
                            exact x_iret hsz hx hb hr hlk hw (by have hj8 : j = 128 := (by omega); (try rw [hj8]); clear hl hw hA ht; (first | have c0 := gez c1 | have c0 := ltz c1); unfold cntM cntT; first | (simp only [c0, c1, c26, c77, c140, c152, c159, c166, c176, c186, false_and, and_false, not_true_eq_false, not_false_eq_true, and_self, if_true, if_false, reduceIte]; done) | (subst x; revert c0; decide) | (simp_all; done)) d_M_count_200
                          · refine lv_aload_n hx hb d_M_count_189 rfl (lv_at hl 2 rfl) ?_
                            refine lv_iconst (v := 2) hx hb d_M_count_190 (by decide) ?_
                            refine x_ci (x_runV (na := 1) (k := 75) (As := [.int 2]) (rest := []) (ci := 7) ⟨hx, hb, hml, hown, ht⟩ (m_M_nodes 2 n hn4 hs _) w_617 w_619 s_21 w_9 w_620 (by decide +kernel) ⟨rfl, rfl, by decide, by decide⟩ hw (by decide) o_M rfl rfl hl.1 rfl (Nat.le_of_ble_eq_true rfl) d_M_count_191 ⟨Nat.zero_le _, Nat.zero_le _⟩) hw hA (fun v191 u191 H locs hp hw => ?_)
                            obtain ⟨hv9, hu⟩ := hp
                            subst hv9
                            have hu := hu.symm
                            subst hu
                            refine lv_goto (tgt := 200) hx hb d_M_count_194 (by decide) ?_
                            exact x_iret hsz hx hb hr hlk hw (by have hj8 : j = 128 := (by omega); (try rw [hj8]); clear hl hw hA ht; (first | have c0 := gez c1 | have c0 := ltz c1); unfold cntM cntT; first | (simp only [c0, c1, c26, c77, c140, c152, c159, c166, c176, c186, false_and, and_false, not_true_eq_false, not_false_eq_true, and_self, if_true, if_false, reduceIte]; done) | (subst x; revert c0; decide) | (simp_all; done)) d_M_count_200
                        · refine lv_aload_n hx hb d_M_count_179 rfl (lv_at hl 2 rfl) ?_
                          refine x_get (ci := 7) (k := 75) hx hb ht in_M hown hw (by decide) o_M rfl 5 (by decide) (ht _ w_491) rfl d_M_count_180 ?_
                          exact x_iret hsz hx hb hr hlk hw (by have hj8 : j = 128 := (by omega); (try rw [hj8]); clear hl hw hA ht; (first | have c0 := gez c1 | have c0 := ltz c1); unfold cntM cntT; first | (simp only [c0, c1, c26, c77, c140, c152, c159, c166, c176, false_and, and_false, not_true_eq_false, not_false_eq_true, and_self, if_true, if_false, reduceIte]; done) | (subst x; revert c0; decide) | (simp_all; done)) d_M_count_183
                      · refine lv_aload_n hx hb d_M_count_169 rfl (lv_at hl 2 rfl) ?_
                        refine x_get (ci := 7) (k := 75) hx hb ht in_M hown hw (by decide) o_M rfl 10 (by decide) (ht _ w_496) rfl d_M_count_170 ?_
                        exact x_iret hsz hx hb hr hlk hw (by have hj8 : j = 128 := (by omega); (try rw [hj8]); clear hl hw hA ht; (first | have c0 := gez c1 | have c0 := ltz c1); unfold cntM cntT; first | (simp only [c0, c1, c26, c77, c140, c152, c159, c166, false_and, and_false, not_true_eq_false, not_false_eq_true, and_self, if_true, if_false, reduceIte]; done) | (subst x; revert c0; decide) | (simp_all; done)) d_M_count_173
                    · refine lv_iload_n hx hb d_M_count_162 rfl (lv_at hl 1 rfl) ?_
                      exact x_iret hsz hx hb hr hlk hw (by have hj8 : j = 128 := (by omega); (try rw [hj8]); clear hl hw hA ht; (first | have c0 := gez c1 | have c0 := ltz c1); unfold cntM cntT; first | (simp only [c0, c1, c26, c77, c140, c152, c159, false_and, and_false, not_true_eq_false, not_false_eq_true, and_self, if_true, if_false, reduceIte]; done) | (subst x; revert c0; decide) | (simp_all; done)) d_M_count_163
                · refine lv_iload_n hx hb d_M_count_143 rfl (lv_at hl 3 rfl) ?_
                  refine lv_iconst (v := 3) hx hb d_M_count_144 (by decide) ?_
                  refine lv_icmp_lt (tgt := 162) hx hb d_M_count_145 (by decide) (fun c145 => ?_) (fun c145 => ?_)
                  · refine lv_iload_n hx hb d_M_count_162 rfl (lv_at hl 1 rfl) ?_
                    exact x_iret hsz hx hb hr hlk hw (by have hj8 : j = 128 := (by omega); (try rw [hj8]); clear hl hw hA ht; (first | have c0 := gez c1 | have c0 := ltz c1); unfold cntM cntT; first | (simp only [c0, c1, c26, c77, c140, c145, false_and, and_false, not_true_eq_false, not_false_eq_true, and_self, if_true, if_false, reduceIte]; done) | (subst x; revert c0; decide) | (simp_all; done)) d_M_count_163
                  · refine lv_iload_n hx hb d_M_count_148 rfl (lv_at hl 3 rfl) ?_
                    refine lv_sipush (v := 1000) hx hb d_M_count_149 (by decide) ?_
                    refine lv_icmp_eq (tgt := 162) hx hb d_M_count_152 (by decide) (fun c152 => ?_) (fun c152 => ?_)
                    · refine lv_iload_n hx hb d_M_count_162 rfl (lv_at hl 1 rfl) ?_
                      exact x_iret hsz hx hb hr hlk hw (by have hj8 : j = 128 := (by omega); (try rw [hj8]); clear hl hw hA ht; (first | have c0 := gez c1 | have c0 := ltz c1); unfold cntM cntT; first | (simp only [c0, c1, c26, c77, c140, c145, c152, false_and, and_false, not_true_eq_false, not_false_eq_true, and_self, if_true, if_false, reduceIte]; done) | (subst x; revert c0; decide) | (simp_all; done)) d_M_count_163
                    · refine lv_iload_n hx hb d_M_count_155 rfl (lv_at hl 3 rfl) ?_
                      refine lv_sipush (v := 10000) hx hb d_M_count_156 (by decide) ?_
                      refine lv_icmp_ne (tgt := 164) hx hb d_M_count_159 (by decide) (fun c159 => ?_) (fun c159 => ?_)
                      · refine lv_iload_n hx hb d_M_count_164 rfl (lv_at hl 3 rfl) ?_
                        refine lv_iconst (v := 3) hx hb d_M_count_165 (by decide) ?_
                        refine lv_icmp_ne (tgt := 174) hx hb d_M_count_166 (by decide) (fun c166 => ?_) (fun c166 => ?_)
                        · refine lv_iload_n hx hb d_M_count_174 rfl (lv_at hl 3 rfl) ?_
                          refine lv_iconst (v := 4) hx hb d_M_count_175 (by decide) ?_
                          refine lv_icmp_ne (tgt := 184) hx hb d_M_count_176 (by decide) (fun c176 => ?_) (fun c176 => ?_)
                          · refine lv_iload_n hx hb d_M_count_184 rfl (lv_at hl 3 rfl) ?_
                            refine lv_iconst (v := 5) hx hb d_M_count_185 (by decide) ?_
                            refine lv_icmp_ne (tgt := 197) hx hb d_M_count_186 (by decide) (fun c186 => ?_) (fun c186 => ?_)
                            · refine lv_sipush (v := (-1000)) hx hb d_M_count_197 (by decide) ?_
                              exact x_iret hsz hx hb hr hlk hw (by have hj8 : j = 128 := (by omega); (try rw [hj8]); clear hl hw hA ht; (first | have c0 := gez c1 | have c0 := ltz c1); unfold cntM cntT; first | (simp only [c0, c1, c26, c77, c140, c145, c152, c159, c166, c176, c186, false_and, and_false, not_true_eq_false, not_false_eq_true, and_self, if_true, if_false, reduceIte]; done) | (subst x; revert c0; decide) | (simp_all; done)) d_M_count_200
                            · refine lv_aload_n hx hb d_M_count_189 rfl (lv_at hl 2 rfl) ?_
                              refine lv_iconst (v := 2) hx hb d_M_count_190 (by decide) ?_
                              refine x_ci (x_runV (na := 1) (k := 75) (As := [.int 2]) (rest := []) (ci := 7) ⟨hx, hb, hml, hown, ht⟩ (m_M_nodes 2 n hn4 hs _) w_617 w_619 s_21 w_9 w_620 (by decide +kernel) ⟨rfl, rfl, by decide, by decide⟩ hw (by decide) o_M rfl rfl hl.1 rfl (Nat.le_of_ble_eq_true rfl) d_M_count_191 ⟨Nat.zero_le _, Nat.zero_le _⟩) hw hA (fun v191 u191 H locs hp hw => ?_)
                              obtain ⟨hv9, hu⟩ := hp
                              subst hv9
                              have hu := hu.symm
                              subst hu
                              refine lv_goto (tgt := 200) hx hb d_M_count_194 (by decide) ?_
                              exact x_iret hsz hx hb hr hlk hw (by have hj8 : j = 128 := (by omega); (try rw [hj8]); clear hl hw hA ht; (first | have c0 := gez c1 | have c0 := ltz c1); unfold cntM cntT; first | (simp only [c0, c1, c26, c77, c140, c145, c152, c159, c166, c176, c186, false_and, and_false, not_true_eq_false, not_false_eq_true, and_self, if_true, if_false, reduceIte]; done) | (subst x; revert c0; decide) | (simp_all; done)) d_M_count_200
                          · refine lv_aload_n hx hb d_M_count_179 rfl (lv_at hl 2 rfl) ?_
                            refine x_get (ci := 7) (k := 75) hx hb ht in_M hown hw (by decide) o_M rfl 5 (by decide) (ht _ w_491) rfl d_M_count_180 ?_
                            exact x_iret hsz hx hb hr hlk hw (by have hj8 : j = 128 := (by omega); (try rw [hj8]); clear hl hw hA ht; (first | have c0 := gez c1 | have c0 := ltz c1); unfold cntM cntT; first | (simp only [c0, c1, c26, c77, c140, c145, c152, c159, c166, c176, false_and, and_false, not_true_eq_false, not_false_eq_true, and_self, if_true, if_false, reduceIte]; done) | (subst x; revert c0; decide) | (simp_all; done)) d_M_count_183
                        · refine lv_aload_n hx hb d_M_count_169 rfl (lv_at hl 2 rfl) ?_
                          refine x_get (ci := 7) (k := 75) hx hb ht in_M hown hw (by decide) o_M rfl 10 (by decide) (ht _ w_496) rfl d_M_count_170 ?_
                          exact x_iret hsz hx hb hr hlk hw (by have hj8 : j = 128 := (by omega); (try rw [hj8]); clear hl hw hA ht; (first | have c0 := gez c1 | have c0 := ltz c1); unfold cntM cntT; first | (simp only [c0, c1, c26, c77, c140, c145, c152, c159, c166, false_and, and_false, not_true_eq_false, not_false_eq_true, and_self, if_true, if_false, reduceIte]; done) | (subst x; revert c0; decide) | (simp_all; done)) d_M_count_173
                      · refine lv_iload_n hx hb d_M_count_162 rfl (lv_at hl 1 rfl) ?_
                        exact x_iret hsz hx hb hr hlk hw (by have hj8 : j = 128 := (by omega); (try rw [hj8]); clear hl hw hA ht; (first | have c0 := gez c1 | have c0 := ltz c1); unfold cntM cntT; first | (simp only [c0, c1, c26, c77, c140, c145, c152, c159, false_and, and_false, not_true_eq_false, not_false_eq_true, and_self, if_true, if_false, reduceIte]; done) | (subst x; revert c0; decide) | (simp_all; done)) d_M_count_163
              · have h77 : ¬ (128) ≤ (j) := fun hz9 => c77 ((nI_leI (a := 128) (b := j) (by omega) (by omega)).mpr hz9)
                refine lv_aload_n hx hb d_M_count_80 rfl (lv_at hl 2 rfl) ?_
                refine x_get (ci := 7) (k := 75) hx hb ht in_M hown hw (by decide) o_M rfl 4 (by decide) (ht _ w_490) rfl d_M_count_81 ?_
                refine lv_iload_n hx hb d_M_count_84 rfl (lv_at hl 0 rfl) ?_
                refine x_iald (k := 80) hx hb hw (by decide) rfl (vin (N := 128) (by omega) rfl (by omega)) d_M_count_85 ?_
                rw [nI_clamp (n := j) (by omega)]
                refine lv_if_ge (tgt := 92) hx hb d_M_count_86 (by decide) (fun c86 => ?_) (fun c86 => ?_)
                · refine lv_iload_n hx hb d_M_count_92 rfl (lv_at hl 3 rfl) ?_
                  refine lv_iconst (v := 1) hx hb d_M_count_93 (by decide) ?_
                  refine lv_icmp_eq (tgt := 114) hx hb d_M_count_94 (by decide) (fun c94 => ?_) (fun c94 => ?_)
                  · refine lv_iinc (v := ((c2F u x j) + 1)) (lv' := [(2, .int ((c2F u x j) + 1)), (3, .int (nI j)), (0, .ref (ad 75)), (1, .int x)]) hx hb d_M_count_114 hl (k := 1) rfl rfl (by decide) rfl (fun ls hl => ?_)
                    refine lv_iload_n hx hb d_M_count_117 rfl (lv_at hl 3 rfl) ?_
                    refine lv_sipush (v := 10000) hx hb d_M_count_118 (by decide) ?_
                    refine lv_icmp_ne (tgt := 133) hx hb d_M_count_121 (by decide) (fun c121 => ?_) (fun c121 => ?_)
                    · refine lv_iinc (v := (nI (j + 1))) (lv' := [(3, .int (nI (j + 1))), (2, .int ((c2F u x j) + 1)), (0, .ref (ad 75)), (1, .int x)]) hx hb d_M_count_133 hl (k := 1) rfl (nI_1 _) (by decide) rfl (fun ls hl => ?_)
                      refine lv_goto (tgt := 73) hx hb d_M_count_136 (by decide) ?_
                      exact ih73 (j + 1) (by omega) (by omega) _ _ hw ls (by rw [← (show ((c2F u x j) + 1) = (c2F u x (j + 1)) from (by first | (exact absurd (c94.symm.trans c121) (by decide)) | (exact absurd (c99.symm.trans c121) (by decide)) | (simp [c2F, c1, c26, c77, c86, c94, c121]; done)))]; exact lv_sub hl [0, 1, 2, 3] rfl)
                    · refine lv_iload_n hx hb d_M_count_124 rfl (lv_at hl 0 rfl) ?_
                      refine lv_aload_n hx hb d_M_count_125 rfl (lv_at hl 2 rfl) ?_
                      refine x_get (ci := 7) (k := 75) hx hb ht in_M hown hw (by decide) o_M rfl 4 (by decide) (ht _ w_490) rfl d_M_count_126 ?_
                      refine lv_iload_n hx hb d_M_count_129 rfl (lv_at hl 1 rfl) ?_
                      refine x_iald (k := 80) hx hb hw (by decide) rfl (vin (N := 128) (by omega) rfl (by omega)) d_M_count_130 ?_
                      rw [nI_clamp (n := j) (by omega)]
                      refine lv_iadd hx hb d_M_count_131 ?_
                      refine lv_istore_n (lv' := [(2, .int (((c2F u x j) + 1) + (u.1 80 j))), (3, .int (nI j)), (0, .ref (ad 75)), (1, .int x)]) hx hb d_M_count_132 rfl hl (by decide) rfl (fun ls hl => ?_)
                      refine lv_iinc (v := (nI (j + 1))) (lv' := [(3, .int (nI (j + 1))), (2, .int (((c2F u x j) + 1) + (u.1 80 j))), (0, .ref (ad 75)), (1, .int x)]) hx hb d_M_count_133 hl (k := 1) rfl (nI_1 _) (by decide) rfl (fun ls hl => ?_)
                      refine lv_goto (tgt := 73) hx hb d_M_count_136 (by decide) ?_
                      exact ih73 (j + 1) (by omega) (by omega) _ _ hw ls (by rw [← (show (((c2F u x j) + 1) + (u.1 80 j)) = (c2F u x (j + 1)) from (by first | (exact absurd (c94.symm.trans c121) (by decide)) | (exact absurd (c99.symm.trans c121) (by decide)) | (simp [c2F, c1, c26, c77, c86, c94, c121]; done)))]; exact lv_sub hl [0, 1, 2, 3] rfl)
                  · refine lv_iload_n hx hb d_M_count_97 rfl (lv_at hl 3 rfl) ?_
                    refine lv_iconst (v := 2) hx hb d_M_count_98 (by decide) ?_
                    refine lv_icmp_ne (tgt := 117) hx hb d_M_count_99 (by decide) (fun c99 => ?_) (fun c99 => ?_)
                    · refine lv_iload_n hx hb d_M_count_117 rfl (lv_at hl 3 rfl) ?_
                      refine lv_sipush (v := 10000) hx hb d_M_count_118 (by decide) ?_
                      refine lv_icmp_ne (tgt := 133) hx hb d_M_count_121 (by decide) (fun c121 => ?_) (fun c121 => ?_)
                      · refine lv_iinc (v := (nI (j + 1))) (lv' := [(3, .int (nI (j + 1))), (2, .int (c2F u x j)), (0, .ref (ad 75)), (1, .int x)]) hx hb d_M_count_133 hl (k := 0) rfl (nI_1 _) (by decide) rfl (fun ls hl => ?_)
                        refine lv_goto (tgt := 73) hx hb d_M_count_136 (by decide) ?_
                        exact ih73 (j + 1) (by omega) (by omega) _ _ hw ls (by rw [← (show (c2F u x j) = (c2F u x (j + 1)) from (by first | (exact absurd (c94.symm.trans c121) (by decide)) | (exact absurd (c99.symm.trans c121) (by decide)) | (simp [c2F, c1, c26, c77, c86, c94, c99, c121]; done)))]; exact lv_sub hl [0, 1, 2, 3] rfl)
                      · refine lv_iload_n hx hb d_M_count_124 rfl (lv_at hl 1 rfl) ?_
                        refine lv_aload_n hx hb d_M_count_125 rfl (lv_at hl 2 rfl) ?_
                        refine x_get (ci := 7) (k := 75) hx hb ht in_M hown hw (by decide) o_M rfl 4 (by decide) (ht _ w_490) rfl d_M_count_126 ?_
                        refine lv_iload_n hx hb d_M_count_129 rfl (lv_at hl 0 rfl) ?_
                        refine x_iald (k := 80) hx hb hw (by decide) rfl (vin (N := 128) (by omega) rfl (by omega)) d_M_count_130 ?_
                        rw [nI_clamp (n := j) (by omega)]
                        refine lv_iadd hx hb d_M_count_131 ?_
                        refine lv_istore_n (lv' := [(2, .int ((c2F u x j) + (u.1 80 j))), (3, .int (nI j)), (0, .ref (ad 75)), (1, .int x)]) hx hb d_M_count_132 rfl hl (by decide) rfl (fun ls hl => ?_)
                        refine lv_iinc (v := (nI (j + 1))) (lv' := [(3, .int (nI (j + 1))), (2, .int ((c2F u x j) + (u.1 80 j))), (0, .ref (ad 75)), (1, .int x)]) hx hb d_M_count_133 hl (k := 1) rfl (nI_1 _) (by decide) rfl (fun ls hl => ?_)
                        refine lv_goto (tgt := 73) hx hb d_M_count_136 (by decide) ?_
                        exact ih73 (j + 1) (by omega) (by omega) _ _ hw ls (by rw [← (show ((c2F u x j) + (u.1 80 j)) = (c2F u x (j + 1)) from (by first | (exact absurd (c94.symm.trans c121) (by decide)) | (exact absurd (c99.symm.trans c121) (by decide)) | (simp [c2F, c1, c26, c77, c86, c94, c99, c121]; done)))]; exact lv_sub hl [0, 1, 2, 3] rfl)
                    · refine lv_aload_n hx hb d_M_count_102 rfl (lv_at hl 2 rfl) ?_
                      refine x_get (ci := 7) (k := 75) hx hb ht in_M hown hw (by decide) o_M rfl 0 (by decide) (ht _ w_486) rfl d_M_count_103 ?_
                      refine lv_iload_n hx hb d_M_count_106 rfl (lv_at hl 0 rfl) ?_
                      refine lv_bipush (v := 16) hx hb d_M_count_107 (by decide) ?_
                      refine lv_irem hx hb d_M_count_109 (by decide) ?_
                      rw [show ((nI j) - (nI j) / 16 * 16) = (nI (j % 16)) from pk_rem (a := j) (d := 16) (by omega) (by decide) (by decide)]
                      refine x_zald (k := 76) hx hb hw (by decide) rfl (vin (N := 16) (by omega) rfl (by omega)) d_M_count_110 ?_
                      rw [nI_clamp (n := j % 16) (by omega)]
                      refine lv_if_eq (tgt := 117) hx hb d_M_count_111 (by decide) (fun c111 => ?_) (fun c111 => ?_)
                      · refine lv_iload_n hx hb d_M_count_117 rfl (lv_at hl 3 rfl) ?_
                        refine lv_sipush (v := 10000) hx hb d_M_count_118 (by decide) ?_
                        refine lv_icmp_ne (tgt := 133) hx hb d_M_count_121 (by decide) (fun c121 => ?_) (fun c121 => ?_)
                        · refine lv_iinc (v := (nI (j + 1))) (lv' := [(3, .int (nI (j + 1))), (2, .int (c2F u x j)), (0, .ref (ad 75)), (1, .int x)]) hx hb d_M_count_133 hl (k := 0) rfl (nI_1 _) (by decide) rfl (fun ls hl => ?_)
                          refine lv_goto (tgt := 73) hx hb d_M_count_136 (by decide) ?_
                          exact ih73 (j + 1) (by omega) (by omega) _ _ hw ls (by rw [← (show (c2F u x j) = (c2F u x (j + 1)) from (by first | (exact absurd (c94.symm.trans c121) (by decide)) | (exact absurd (c99.symm.trans c121) (by decide)) | (simp [c2F, c1, c26, c77, c86, c94, c99, c111, c121]; done)))]; exact lv_sub hl [0, 1, 2, 3] rfl)
                        · refine lv_iload_n hx hb d_M_count_124 rfl (lv_at hl 1 rfl) ?_
                          refine lv_aload_n hx hb d_M_count_125 rfl (lv_at hl 2 rfl) ?_
                          refine x_get (ci := 7) (k := 75) hx hb ht in_M hown hw (by decide) o_M rfl 4 (by decide) (ht _ w_490) rfl d_M_count_126 ?_
                          refine lv_iload_n hx hb d_M_count_129 rfl (lv_at hl 0 rfl) ?_
                          refine x_iald (k := 80) hx hb hw (by decide) rfl (vin (N := 128) (by omega) rfl (by omega)) d_M_count_130 ?_
                          rw [nI_clamp (n := j) (by omega)]
                          refine lv_iadd hx hb d_M_count_131 ?_
                          refine lv_istore_n (lv' := [(2, .int ((c2F u x j) + (u.1 80 j))), (3, .int (nI j)), (0, .ref (ad 75)), (1, .int x)]) hx hb d_M_count_132 rfl hl (by decide) rfl (fun ls hl => ?_)
                          refine lv_iinc (v := (nI (j + 1))) (lv' := [(3, .int (nI (j + 1))), (2, .int ((c2F u x j) + (u.1 80 j))), (0, .ref (ad 75)), (1, .int x)]) hx hb d_M_count_133 hl (k := 1) rfl (nI_1 _) (by decide) rfl (fun ls hl => ?_)
                          refine lv_goto (tgt := 73) hx hb d_M_count_136 (by decide) ?_
                          exact ih73 (j + 1) (by omega) (by omega) _ _ hw ls (by rw [← (show ((c2F u x j) + (u.1 80 j)) = (c2F u x (j + 1)) from (by first | (exact absurd (c94.symm.trans c121) (by decide)) | (exact absurd (c99.symm.trans c121) (by decide)) | (simp [c2F, c1, c26, c77, c86, c94, c99, c111, c121]; done)))]; exact lv_sub hl [0, 1, 2, 3] rfl)
                      · refine lv_iinc (v := ((c2F u x j) + 1)) (lv' := [(2, .int ((c2F u x j) + 1)), (3, .int (nI j)), (0, .ref (ad 75)), (1, .int x)]) hx hb d_M_count_114 hl (k := 1) rfl rfl (by decide) rfl (fun ls hl => ?_)
                        refine lv_iload_n hx hb d_M_count_117 rfl (lv_at hl 3 rfl) ?_
                        refine lv_sipush (v := 10000) hx hb d_M_count_118 (by decide) ?_
                        refine lv_icmp_ne (tgt := 133) hx hb d_M_count_121 (by decide) (fun c121 => ?_) (fun c121 => ?_)
                        · refine lv_iinc (v := (nI (j + 1))) (lv' := [(3, .int (nI (j + 1))), (2, .int ((c2F u x j) + 1)), (0, .ref (ad 75)), (1, .int x)]) hx hb d_M_count_133 hl (k := 1) rfl (nI_1 _) (by decide) rfl (fun ls hl => ?_)
                          refine lv_goto (tgt := 73) hx hb d_M_count_136 (by decide) ?_
                          exact ih73 (j + 1) (by omega) (by omega) _ _ hw ls (by rw [← (show ((c2F u x j) + 1) = (c2F u x (j + 1)) from (by first | (exact absurd (c94.symm.trans c121) (by decide)) | (exact absurd (c99.symm.trans c121) (by decide)) | (simp [c2F, c1, c26, c77, c86, c94, c99, c111, c121]; done)))]; exact lv_sub hl [0, 1, 2, 3] rfl)
                        · refine lv_iload_n hx hb d_M_count_124 rfl (lv_at hl 0 rfl) ?_
                          refine lv_aload_n hx hb d_M_count_125 rfl (lv_at hl 2 rfl) ?_
                          refine x_get (ci := 7) (k := 75) hx hb ht in_M hown hw (by decide) o_M rfl 4 (by decide) (ht _ w_490) rfl d_M_count_126 ?_
                          refine lv_iload_n hx hb d_M_count_129 rfl (lv_at hl 1 rfl) ?_
                          refine x_iald (k := 80) hx hb hw (by decide) rfl (vin (N := 128) (by omega) rfl (by omega)) d_M_count_130 ?_
                          rw [nI_clamp (n := j) (by omega)]
                          refine lv_iadd hx hb d_M_count_131 ?_
                          refine lv_istore_n (lv' := [(2, .int (((c2F u x j) + 1) + (u.1 80 j))), (3, .int (nI j)), (0, .ref (ad 75)), (1, .int x)]) hx hb d_M_count_132 rfl hl (by decide) rfl (fun ls hl => ?_)
                          refine lv_iinc (v := (nI (j + 1))) (lv' := [(3, .int (nI (j + 1))), (2, .int (((c2F u x j) + 1) + (u.1 80 j))), (0, .ref (ad 75)), (1, .int x)]) hx hb d_M_count_133 hl (k := 1) rfl (nI_1 _) (by decide) rfl (fun ls hl => ?_)
                          refine lv_goto (tgt := 73) hx hb d_M_count_136 (by decide) ?_
                          exact ih73 (j + 1) (by omega) (by omega) _ _ hw ls (by rw [← (show (((c2F u x j) + 1) + (u.1 80 j)) = (c2F u x (j + 1)) from (by first | (exact absurd (c94.symm.trans c121) (by decide)) | (exact absurd (c99.symm.trans c121) (by decide)) | (simp [c2F, c1, c26, c77, c86, c94, c99, c111, c121]; done)))]; exact lv_sub hl [0, 1, 2, 3] rfl)
                · refine lv_goto (tgt := 133) hx hb d_M_count_89 (by decide) ?_
                  refine lv_iinc (v := (nI (j + 1))) (lv' := [(3, .int (nI (j + 1))), (2, .int (c2F u x j)), (0, .ref (ad 75)), (1, .int x)]) hx hb d_M_count_133 hl (k := 0) rfl (nI_1 _) (by decide) rfl (fun ls hl => ?_)
                  refine lv_goto (tgt := 73) hx hb d_M_count_136 (by decide) ?_
                  exact ih73 (j + 1) (by omega) (by omega) _ _ hw ls (by rw [← (show (c2F u x j) = (c2F u x (j + 1)) from (by first | (exact absurd (c94.symm.trans c121) (by decide)) | (exact absurd (c99.symm.trans c121) (by decide)) | (simp [c2F, c1, c26, c77, c86]; done)))]; exact lv_sub hl [0, 1, 2, 3] rfl)
          exact L73 ((128 - 0) + 1) (0) (by omega) (by omega) _ _ hw ls (by rw [← (show (c1F u x t) = (c2F u x 0) from (by rw [show t = 16 by omega]; rfl))]; exact lv_sub hl [0, 1, 2, 3] rfl)
        · have h26 : ¬ (16) ≤ (t) := fun hz9 => c26 ((nI_leI (a := 16) (b := t) (by omega) (by omega)).mpr hz9)
          refine lv_aload_n hx hb d_M_count_29 rfl (lv_at hl 2 rfl) ?_
          refine x_get (ci := 7) (k := 75) hx hb ht in_M hown hw (by decide) o_M rfl 0 (by decide) (ht _ w_486) rfl d_M_count_30 ?_
          refine lv_iload_n hx hb d_M_count_33 rfl (lv_at hl 0 rfl) ?_
          refine x_zald (k := 76) hx hb hw (by decide) rfl (vin (N := 16) (by omega) rfl (by omega)) d_M_count_34 ?_
          rw [nI_clamp (n := t) (by omega)]
          refine lv_if_ne (tgt := 41) hx hb d_M_count_35 (by decide) (fun c35 => ?_) (fun c35 => ?_)
          · refine lv_iload_n hx hb d_M_count_41 rfl (lv_at hl 3 rfl) ?_
            refine lv_if_ne (tgt := 48) hx hb d_M_count_42 (by decide) (fun c42 => ?_) (fun c42 => ?_)
            · refine lv_iload_n hx hb d_M_count_48 rfl (lv_at hl 3 rfl) ?_
              refine lv_sipush (v := 1000) hx hb d_M_count_49 (by decide) ?_
              refine lv_icmp_ne (tgt := 65) hx hb d_M_count_52 (by decide) (fun c52 => ?_) (fun c52 => ?_)
              · refine lv_iinc (v := (nI (t + 1))) (lv' := [(3, .int (nI (t + 1))), (2, .int (c1F u x t)), (0, .ref (ad 75)), (1, .int x)]) hx hb d_M_count_65 hl (k := 0) rfl (nI_1 _) (by decide) rfl (fun ls hl => ?_)
                refine lv_goto (tgt := 23) hx hb d_M_count_68 (by decide) ?_
                exact ih23 (t + 1) (by omega) (by omega) _ _ hw ls (by rw [← (show (c1F u x t) = (c1F u x (t + 1)) from (by first | (exact absurd (c42.symm.trans c52) (by decide)) | (simp [c1F, ftM, c1, c26, c35, c42, c52]; done)))]; exact lv_sub hl [0, 1, 2, 3] rfl)
              · refine lv_iload_n hx hb d_M_count_55 rfl (lv_at hl 1 rfl) ?_
                refine lv_aload_n hx hb d_M_count_56 rfl (lv_at hl 2 rfl) ?_
                refine lv_iconst (v := 0) hx hb d_M_count_57 (by decide) ?_
                refine lv_iload_n hx hb d_M_count_58 rfl (lv_at hl 0 rfl) ?_
                refine lv_iconst (v := 2) hx hb d_M_count_59 (by decide) ?_
                refine x_ci (x_runV (na := 3) (k := 75) (As := [.int 0, .int (nI t), .int 2]) (rest := [.int (c1F u x t)]) (ci := 7) ⟨hx, hb, hml, hown, ht⟩ (m_M_featureOf 0 t 2 (by omega) (by omega) _) w_589 w_591 s_15 w_9 w_592 (by decide +kernel) ⟨rfl, rfl, by decide, by decide⟩ hw (by decide) o_M rfl rfl hl.1 rfl (Nat.le_of_ble_eq_true rfl) d_M_count_60 ⟨Nat.zero_le _, Nat.zero_le _⟩) hw hA (fun v60 u60 H locs hp hw => ?_)
                obtain ⟨hv9, hu⟩ := hp
                subst hv9
                have hu := hu.symm
                subst hu
                refine lv_iadd hx hb d_M_count_63 ?_
                refine lv_istore_n (lv' := [(2, .int ((c1F u x t) + (featF (fun i => u.1 78 (t * 12 + i)) (u.1 79 0) (u.1 77 t) 2))), (3, .int (nI t)), (0, .ref (ad 75)), (1, .int x)]) hx hb d_M_count_64 rfl hl (by decide) rfl (fun ls hl => ?_)
                refine lv_iinc (v := (nI (t + 1))) (lv' := [(3, .int (nI (t + 1))), (2, .int ((c1F u x t) + (featF (fun i => u.1 78 (t * 12 + i)) (u.1 79 0) (u.1 77 t) 2))), (0, .ref (ad 75)), (1, .int x)]) hx hb d_M_count_65 hl (k := 1) rfl (nI_1 _) (by decide) rfl (fun ls hl => ?_)
                refine lv_goto (tgt := 23) hx hb d_M_count_68 (by decide) ?_
                exact ih23 (t + 1) (by omega) (by omega) _ _ hw ls (by rw [← (show ((c1F u x t) + (featF (fun i => u.1 78 (t * 12 + i)) (u.1 79 0) (u.1 77 t) 2)) = (c1F u x (t + 1)) from (by first | (exact absurd (c42.symm.trans c52) (by decide)) | (simp [c1F, ftM, c1, c26, c35, c42, c52]; done)))]; exact lv_sub hl [0, 1, 2, 3] rfl)
            · refine lv_iinc (v := ((c1F u x t) + 1)) (lv' := [(2, .int ((c1F u x t) + 1)), (3, .int (nI t)), (0, .ref (ad 75)), (1, .int x)]) hx hb d_M_count_45 hl (k := 1) rfl rfl (by decide) rfl (fun ls hl => ?_)
              refine lv_iload_n hx hb d_M_count_48 rfl (lv_at hl 3 rfl) ?_
              refine lv_sipush (v := 1000) hx hb d_M_count_49 (by decide) ?_
              refine lv_icmp_ne (tgt := 65) hx hb d_M_count_52 (by decide) (fun c52 => ?_) (fun c52 => ?_)
              · refine lv_iinc (v := (nI (t + 1))) (lv' := [(3, .int (nI (t + 1))), (2, .int ((c1F u x t) + 1)), (0, .ref (ad 75)), (1, .int x)]) hx hb d_M_count_65 hl (k := 1) rfl (nI_1 _) (by decide) rfl (fun ls hl => ?_)
                refine lv_goto (tgt := 23) hx hb d_M_count_68 (by decide) ?_
                exact ih23 (t + 1) (by omega) (by omega) _ _ hw ls (by rw [← (show ((c1F u x t) + 1) = (c1F u x (t + 1)) from (by first | (exact absurd (c42.symm.trans c52) (by decide)) | (simp [c1F, ftM, c1, c26, c35, c42, c52]; done)))]; exact lv_sub hl [0, 1, 2, 3] rfl)
              · refine lv_iload_n hx hb d_M_count_55 rfl (lv_at hl 0 rfl) ?_
                refine lv_aload_n hx hb d_M_count_56 rfl (lv_at hl 2 rfl) ?_
                refine lv_iconst (v := 0) hx hb d_M_count_57 (by decide) ?_
                refine lv_iload_n hx hb d_M_count_58 rfl (lv_at hl 1 rfl) ?_
                refine lv_iconst (v := 2) hx hb d_M_count_59 (by decide) ?_
                refine x_ci (x_runV (na := 3) (k := 75) (As := [.int 0, .int (nI t), .int 2]) (rest := [.int ((c1F u x t) + 1)]) (ci := 7) ⟨hx, hb, hml, hown, ht⟩ (m_M_featureOf 0 t 2 (by omega) (by omega) _) w_589 w_591 s_15 w_9 w_592 (by decide +kernel) ⟨rfl, rfl, by decide, by decide⟩ hw (by decide) o_M rfl rfl hl.1 rfl (Nat.le_of_ble_eq_true rfl) d_M_count_60 ⟨Nat.zero_le _, Nat.zero_le _⟩) hw hA (fun v60 u60 H locs hp hw => ?_)
                obtain ⟨hv9, hu⟩ := hp
                subst hv9
                have hu := hu.symm
                subst hu
                refine lv_iadd hx hb d_M_count_63 ?_
                refine lv_istore_n (lv' := [(2, .int (((c1F u x t) + 1) + (featF (fun i => u.1 78 (t * 12 + i)) (u.1 79 0) (u.1 77 t) 2))), (3, .int (nI t)), (0, .ref (ad 75)), (1, .int x)]) hx hb d_M_count_64 rfl hl (by decide) rfl (fun ls hl => ?_)
                refine lv_iinc (v := (nI (t + 1))) (lv' := [(3, .int (nI (t + 1))), (2, .int (((c1F u x t) + 1) + (featF (fun i => u.1 78 (t * 12 + i)) (u.1 79 0) (u.1 77 t) 2))), (0, .ref (ad 75)), (1, .int x)]) hx hb d_M_count_65 hl (k := 1) rfl (nI_1 _) (by decide) rfl (fun ls hl => ?_)
                refine lv_goto (tgt := 23) hx hb d_M_count_68 (by decide) ?_
                exact ih23 (t + 1) (by omega) (by omega) _ _ hw ls (by rw [← (show (((c1F u x t) + 1) + (featF (fun i => u.1 78 (t * 12 + i)) (u.1 79 0) (u.1 77 t) 2)) = (c1F u x (t + 1)) from (by first | (exact absurd (c42.symm.trans c52) (by decide)) | (simp [c1F, ftM, c1, c26, c35, c42, c52]; done)))]; exact lv_sub hl [0, 1, 2, 3] rfl)
          · refine lv_goto (tgt := 65) hx hb d_M_count_38 (by decide) ?_
            refine lv_iinc (v := (nI (t + 1))) (lv' := [(3, .int (nI (t + 1))), (2, .int (c1F u x t)), (0, .ref (ad 75)), (1, .int x)]) hx hb d_M_count_65 hl (k := 0) rfl (nI_1 _) (by decide) rfl (fun ls hl => ?_)
            refine lv_goto (tgt := 23) hx hb d_M_count_68 (by decide) ?_
            exact ih23 (t + 1) (by omega) (by omega) _ _ hw ls (by rw [← (show (c1F u x t) = (c1F u x (t + 1)) from (by first | (exact absurd (c42.symm.trans c52) (by decide)) | (simp [c1F, ftM, c1, c26, c35]; done)))]; exact lv_sub hl [0, 1, 2, 3] rfl)
    exact L23 ((16 - 0) + 1) (0) (by omega) (by omega) _ _ hw ls (lv_sub hl [0, 1, 2, 3] rfl)
  · refine lv_iload_n hx hb d_M_count_4 rfl (lv_at hl 1 rfl) ?_
    refine lv_bipush (v := (-8)) hx hb d_M_count_5 (by decide) ?_
    refine lv_icmp_lt (tgt := 19) hx hb d_M_count_7 (by decide) (fun c7 => ?_) (fun c7 => ?_)
    · refine lv_iconst (v := 0) hx hb d_M_count_19 (by decide) ?_
      refine lv_istore_n (lv' := [(2, .int 0), (0, .ref (ad 75)), (1, .int x)]) hx hb d_M_count_20 rfl hl (by decide) rfl (fun ls hl => ?_)
      refine lv_iconst (v := 0) hx hb d_M_count_21 (by decide) ?_
      refine lv_istore_n (lv' := [(3, .int 0), (2, .int 0), (0, .ref (ad 75)), (1, .int x)]) hx hb d_M_count_22 rfl hl (by decide) rfl (fun ls hl => ?_)
      have L23 : ∀ (n23 : Nat) (t : Nat), t ≤ 16 → 16 - t < n23 → ∀ (H : Heap) (locs : List Loc), XH D g ad (AX ad sz) s s.heap H locs u → ∀ ls : Array Slot, lv_has ls 4 [(3, .int (nI t)), (2, .int (c1F u x t)), (0, .ref (ad 75)), (1, .int x)] → W p l e (rmN 1 29) s m ([.ref (ad 75), .int x] : List Value).toArray below meth c H locs 0 0 (MQ below (va_Qi (fun v w => (v, w) = cntM u x n) (XB D g ad sz) (AX ad sz)) ([.ref (ad 75), .int x] : List Value).toArray s 0 0 (AX ad sz)) (F0 m 23 ls []) := by
        intro n23
        induction n23 with
        | zero => intro t h1 hz; exact absurd hz (by omega)
        | succ n23 ih23 =>
          intro t h1 hnL23 H locs hw ls hl
          refine lv_iload_n hx hb d_M_count_23 rfl (lv_at hl 0 rfl) ?_
          refine lv_bipush (v := 16) hx hb d_M_count_24 (by decide) ?_
          refine lv_icmp_ge (tgt := 71) hx hb d_M_count_26 (by decide) (fun c26 => ?_) (fun c26 => ?_)
          · have h26 : (16) ≤ (t) := (nI_leI (a := 16) (b := t) (by omega) (by omega)).mp c26
            refine lv_iconst (v := 0) hx hb d_M_count_71 (by decide) ?_
            refine lv_istore_n (lv' := [(3, .int 0), (2, .int (c1F u x t)), (0, .ref (ad 75)), (1, .int x)]) hx hb d_M_count_72 rfl hl (by decide) rfl (fun ls hl => ?_)
            have L73 : ∀ (n73 : Nat) (j : Nat), j ≤ 128 → 128 - j < n73 → ∀ (H : Heap) (locs : List Loc), XH D g ad (AX ad sz) s s.heap H locs u → ∀ ls : Array Slot, lv_has ls 4 [(3, .int (nI j)), (2, .int (c2F u x j)), (0, .ref (ad 75)), (1, .int x)] → W p l e (rmN 1 29) s m ([.ref (ad 75), .int x] : List Value).toArray below meth c H locs 0 0 (MQ below (va_Qi (fun v w => (v, w) = cntM u x n) (XB D g ad sz) (AX ad sz)) ([.ref (ad 75), .int x] : List Value).toArray s 0 0 (AX ad sz)) (F0 m 73 ls []) := by
              intro n73
              induction n73 with
              | zero => intro j h2 hz; exact absurd hz (by omega)
              | succ n73 ih73 =>
                intro j h2 hnL73 H locs hw ls hl
                refine lv_iload_n hx hb d_M_count_73 rfl (lv_at hl 0 rfl) ?_
                refine lv_sipush (v := 128) hx hb d_M_count_74 (by decide) ?_
                refine lv_icmp_ge (tgt := 139) hx hb d_M_count_77 (by decide) (fun c77 => ?_) (fun c77 => ?_)
                · have h77 : (128) ≤ (j) := (nI_leI (a := 128) (b := j) (by omega) (by omega)).mp c77
                  refine lv_iload_n hx hb d_M_count_139 rfl (lv_at hl 3 rfl) ?_
                  refine lv_if_lt (tgt := 148) hx hb d_M_count_140 (by decide) (fun c140 => ?_) (fun c140 => ?_)
                  · refine lv_iload_n hx hb d_M_count_148 rfl (lv_at hl 3 rfl) ?_
                    refine lv_sipush (v := 1000) hx hb d_M_count_149 (by decide) ?_
                    refine lv_icmp_eq (tgt := 162) hx hb d_M_count_152 (by decide) (fun c152 => ?_) (fun c152 => ?_)
                    · refine lv_iload_n hx hb d_M_count_162 rfl (lv_at hl 1 rfl) ?_
                      exact x_iret hsz hx hb hr hlk hw (by have hj8 : j = 128 := (by omega); (try rw [hj8]); clear hl hw hA ht; (first | have c0 := gez c1 | have c0 := ltz c1); unfold cntM cntT; first | (simp only [c0, c1, c7, c26, c77, c140, c152, false_and, and_false, not_true_eq_false, not_false_eq_true, and_self, if_true, if_false, reduceIte]; done) | (subst x; revert c0; decide) | (simp_all; done)) d_M_count_163
                    · refine lv_iload_n hx hb d_M_count_155 rfl (lv_at hl 3 rfl) ?_
                      refine lv_sipush (v := 10000) hx hb d_M_count_156 (by decide) ?_
                      refine lv_icmp_ne (tgt := 164) hx hb d_M_count_159 (by decide) (fun c159 => ?_) (fun c159 => ?_)
                      · refine lv_iload_n hx hb d_M_count_164 rfl (lv_at hl 3 rfl) ?_
                        refine lv_iconst (v := 3) hx hb d_M_count_165 (by decide) ?_
                        refine lv_icmp_ne (tgt := 174) hx hb d_M_count_166 (by decide) (fun c166 => ?_) (fun c166 => ?_)
                        · refine lv_iload_n hx hb d_M_count_174 rfl (lv_at hl 3 rfl) ?_
                          refine lv_iconst (v := 4) hx hb d_M_count_175 (by decide) ?_
                          refine lv_icmp_ne (tgt := 184) hx hb d_M_count_176 (by decide) (fun c176 => ?_) (fun c176 => ?_)
                          · refine lv_iload_n hx hb d_M_count_184 rfl (lv_at hl 3 rfl) ?_
                            refine lv_iconst (v := 5) hx hb d_M_count_185 (by decide) ?_
                            refine lv_icmp_ne (tgt := 197) hx hb d_M_count_186 (by decide) (fun c186 => ?_) (fun c186 => ?_)
                            · refine lv_sipush (v := (-1000)) hx hb d_M_count_197 (by decide) ?_
                              exact x_iret hsz hx hb hr hlk hw (by have hj8 : j = 128 := (by omega); (try rw [hj8]); clear hl hw hA ht; (first | have c0 := gez c1 | have c0 := ltz c1); unfold cntM cntT; first | (simp only [c0, c1, c7, c26, c77, c140, c152, c159, c166, c176, c186, false_and, and_false, not_true_eq_false, not_false_eq_true, and_self, if_true, if_false, reduceIte]; done) | (subst x; revert c0; decide) | (simp_all; done)) d_M_count_200
                            · refine lv_aload_n hx hb d_M_count_189 rfl (lv_at hl 2 rfl) ?_
                              refine lv_iconst (v := 2) hx hb d_M_count_190 (by decide) ?_
                              refine x_ci (x_runV (na := 1) (k := 75) (As := [.int 2]) (rest := []) (ci := 7) ⟨hx, hb, hml, hown, ht⟩ (m_M_nodes 2 n hn4 hs _) w_617 w_619 s_21 w_9 w_620 (by decide +kernel) ⟨rfl, rfl, by decide, by decide⟩ hw (by decide) o_M rfl rfl hl.1 rfl (Nat.le_of_ble_eq_true rfl) d_M_count_191 ⟨Nat.zero_le _, Nat.zero_le _⟩) hw hA (fun v191 u191 H locs hp hw => ?_)
                              obtain ⟨hv9, hu⟩ := hp
                              subst hv9
                              have hu := hu.symm
                              subst hu
                              refine lv_goto (tgt := 200) hx hb d_M_count_194 (by decide) ?_
                              exact x_iret hsz hx hb hr hlk hw (by have hj8 : j = 128 := (by omega); (try rw [hj8]); clear hl hw hA ht; (first | have c0 := gez c1 | have c0 := ltz c1); unfold cntM cntT; first | (simp only [c0, c1, c7, c26, c77, c140, c152, c159, c166, c176, c186, false_and, and_false, not_true_eq_false, not_false_eq_true, and_self, if_true, if_false, reduceIte]; done) | (subst x; revert c0; decide) | (simp_all; done)) d_M_count_200
                          · refine lv_aload_n hx hb d_M_count_179 rfl (lv_at hl 2 rfl) ?_
                            refine x_get (ci := 7) (k := 75) hx hb ht in_M hown hw (by decide) o_M rfl 5 (by decide) (ht _ w_491) rfl d_M_count_180 ?_
                            exact x_iret hsz hx hb hr hlk hw (by have hj8 : j = 128 := (by omega); (try rw [hj8]); clear hl hw hA ht; (first | have c0 := gez c1 | have c0 := ltz c1); unfold cntM cntT; first | (simp only [c0, c1, c7, c26, c77, c140, c152, c159, c166, c176, false_and, and_false, not_true_eq_false, not_false_eq_true, and_self, if_true, if_false, reduceIte]; done) | (subst x; revert c0; decide) | (simp_all; done)) d_M_count_183
                        · refine lv_aload_n hx hb d_M_count_169 rfl (lv_at hl 2 rfl) ?_
                          refine x_get (ci := 7) (k := 75) hx hb ht in_M hown hw (by decide) o_M rfl 10 (by decide) (ht _ w_496) rfl d_M_count_170 ?_
                          exact x_iret hsz hx hb hr hlk hw (by have hj8 : j = 128 := (by omega); (try rw [hj8]); clear hl hw hA ht; (first | have c0 := gez c1 | have c0 := ltz c1); unfold cntM cntT; first | (simp only [c0, c1, c7, c26, c77, c140, c152, c159, c166, false_and, and_false, not_true_eq_false, not_false_eq_true, and_self, if_true, if_false, reduceIte]; done) | (subst x; revert c0; decide) | (simp_all; done)) d_M_count_173
                      · refine lv_iload_n hx hb d_M_count_162 rfl (lv_at hl 1 rfl) ?_
                        exact x_iret hsz hx hb hr hlk hw (by have hj8 : j = 128 := (by omega); (try rw [hj8]); clear hl hw hA ht; (first | have c0 := gez c1 | have c0 := ltz c1); unfold cntM cntT; first | (simp only [c0, c1, c7, c26, c77, c140, c152, c159, false_and, and_false, not_true_eq_false, not_false_eq_true, and_self, if_true, if_false, reduceIte]; done) | (subst x; revert c0; decide) | (simp_all; done)) d_M_count_163
                  · refine lv_iload_n hx hb d_M_count_143 rfl (lv_at hl 3 rfl) ?_
                    refine lv_iconst (v := 3) hx hb d_M_count_144 (by decide) ?_
                    refine lv_icmp_lt (tgt := 162) hx hb d_M_count_145 (by decide) (fun c145 => ?_) (fun c145 => ?_)
                    · refine lv_iload_n hx hb d_M_count_162 rfl (lv_at hl 1 rfl) ?_
                      exact x_iret hsz hx hb hr hlk hw (by have hj8 : j = 128 := (by omega); (try rw [hj8]); clear hl hw hA ht; (first | have c0 := gez c1 | have c0 := ltz c1); unfold cntM cntT; first | (simp only [c0, c1, c7, c26, c77, c140, c145, false_and, and_false, not_true_eq_false, not_false_eq_true, and_self, if_true, if_false, reduceIte]; done) | (subst x; revert c0; decide) | (simp_all; done)) d_M_count_163
                    · refine lv_iload_n hx hb d_M_count_148 rfl (lv_at hl 3 rfl) ?_
                      refine lv_sipush (v := 1000) hx hb d_M_count_149 (by decide) ?_
                      refine lv_icmp_eq (tgt := 162) hx hb d_M_count_152 (by decide) (fun c152 => ?_) (fun c152 => ?_)
                      · refine lv_iload_n hx hb d_M_count_162 rfl (lv_at hl 1 rfl) ?_
                        exact x_iret hsz hx hb hr hlk hw (by have hj8 : j = 128 := (by omega); (try rw [hj8]); clear hl hw hA ht; (first | have c0 := gez c1 | have c0 := ltz c1); unfold cntM cntT; first | (simp only [c0, c1, c7, c26, c77, c140, c145, c152, false_and, and_false, not_true_eq_false, not_false_eq_true, and_self, if_true, if_false, reduceIte]; done) | (subst x; revert c0; decide) | (simp_all; done)) d_M_count_163
                      · refine lv_iload_n hx hb d_M_count_155 rfl (lv_at hl 3 rfl) ?_
                        refine lv_sipush (v := 10000) hx hb d_M_count_156 (by decide) ?_
                        refine lv_icmp_ne (tgt := 164) hx hb d_M_count_159 (by decide) (fun c159 => ?_) (fun c159 => ?_)
                        · refine lv_iload_n hx hb d_M_count_164 rfl (lv_at hl 3 rfl) ?_
                          refine lv_iconst (v := 3) hx hb d_M_count_165 (by decide) ?_
                          refine lv_icmp_ne (tgt := 174) hx hb d_M_count_166 (by decide) (fun c166 => ?_) (fun c166 => ?_)
                          · refine lv_iload_n hx hb d_M_count_174 rfl (lv_at hl 3 rfl) ?_
                            refine lv_iconst (v := 4) hx hb d_M_count_175 (by decide) ?_
                            refine lv_icmp_ne (tgt := 184) hx hb d_M_count_176 (by decide) (fun c176 => ?_) (fun c176 => ?_)
                            · refine lv_iload_n hx hb d_M_count_184 rfl (lv_at hl 3 rfl) ?_
                              refine lv_iconst (v := 5) hx hb d_M_count_185 (by decide) ?_
                              refine lv_icmp_ne (tgt := 197) hx hb d_M_count_186 (by decide) (fun c186 => ?_) (fun c186 => ?_)
                              · refine lv_sipush (v := (-1000)) hx hb d_M_count_197 (by decide) ?_
                                exact x_iret hsz hx hb hr hlk hw (by have hj8 : j = 128 := (by omega); (try rw [hj8]); clear hl hw hA ht; (first | have c0 := gez c1 | have c0 := ltz c1); unfold cntM cntT; first | (simp only [c0, c1, c7, c26, c77, c140, c145, c152, c159, c166, c176, c186, false_and, and_false, not_true_eq_false, not_false_eq_true, and_self, if_true, if_false, reduceIte]; done) | (subst x; revert c0; decide) | (simp_all; done)) d_M_count_200
                              · refine lv_aload_n hx hb d_M_count_189 rfl (lv_at hl 2 rfl) ?_
                                refine lv_iconst (v := 2) hx hb d_M_count_190 (by decide) ?_
                                refine x_ci (x_runV (na := 1) (k := 75) (As := [.int 2]) (rest := []) (ci := 7) ⟨hx, hb, hml, hown, ht⟩ (m_M_nodes 2 n hn4 hs _) w_617 w_619 s_21 w_9 w_620 (by decide +kernel) ⟨rfl, rfl, by decide, by decide⟩ hw (by decide) o_M rfl rfl hl.1 rfl (Nat.le_of_ble_eq_true rfl) d_M_count_191 ⟨Nat.zero_le _, Nat.zero_le _⟩) hw hA (fun v191 u191 H locs hp hw => ?_)
                                obtain ⟨hv9, hu⟩ := hp
                                subst hv9
                                have hu := hu.symm
                                subst hu
                                refine lv_goto (tgt := 200) hx hb d_M_count_194 (by decide) ?_
                                exact x_iret hsz hx hb hr hlk hw (by have hj8 : j = 128 := (by omega); (try rw [hj8]); clear hl hw hA ht; (first | have c0 := gez c1 | have c0 := ltz c1); unfold cntM cntT; first | (simp only [c0, c1, c7, c26, c77, c140, c145, c152, c159, c166, c176, c186, false_and, and_false, not_true_eq_false, not_false_eq_true, and_self, if_true, if_false, reduceIte]; done) | (subst x; revert c0; decide) | (simp_all; done)) d_M_count_200
                            · refine lv_aload_n hx hb d_M_count_179 rfl (lv_at hl 2 rfl) ?_
                              refine x_get (ci := 7) (k := 75) hx hb ht in_M hown hw (by decide) o_M rfl 5 (by decide) (ht _ w_491) rfl d_M_count_180 ?_
                              exact x_iret hsz hx hb hr hlk hw (by have hj8 : j = 128 := (by omega); (try rw [hj8]); clear hl hw hA ht; (first | have c0 := gez c1 | have c0 := ltz c1); unfold cntM cntT; first | (simp only [c0, c1, c7, c26, c77, c140, c145, c152, c159, c166, c176, false_and, and_false, not_true_eq_false, not_false_eq_true, and_self, if_true, if_false, reduceIte]; done) | (subst x; revert c0; decide) | (simp_all; done)) d_M_count_183
                          · refine lv_aload_n hx hb d_M_count_169 rfl (lv_at hl 2 rfl) ?_
                            refine x_get (ci := 7) (k := 75) hx hb ht in_M hown hw (by decide) o_M rfl 10 (by decide) (ht _ w_496) rfl d_M_count_170 ?_
                            exact x_iret hsz hx hb hr hlk hw (by have hj8 : j = 128 := (by omega); (try rw [hj8]); clear hl hw hA ht; (first | have c0 := gez c1 | have c0 := ltz c1); unfold cntM cntT; first | (simp only [c0, c1, c7, c26, c77, c140, c145, c152, c159, c166, false_and, and_false, not_true_eq_false, not_false_eq_true, and_self, if_true, if_false, reduceIte]; done) | (subst x; revert c0; decide) | (simp_all; done)) d_M_count_173
                        · refine lv_iload_n hx hb d_M_count_162 rfl (lv_at hl 1 rfl) ?_
                          exact x_iret hsz hx hb hr hlk hw (by have hj8 : j = 128 := (by omega); (try rw [hj8]); clear hl hw hA ht; (first | have c0 := gez c1 | have c0 := ltz c1); unfold cntM cntT; first | (simp only [c0, c1, c7, c26, c77, c140, c145, c152, c159, false_and, and_false, not_true_eq_false, not_false_eq_true, and_self, if_true, if_false, reduceIte]; done) | (subst x; revert c0; decide) | (simp_all; done)) d_M_count_163
                · have h77 : ¬ (128) ≤ (j) := fun hz9 => c77 ((nI_leI (a := 128) (b := j) (by omega) (by omega)).mpr hz9)
                  refine lv_aload_n hx hb d_M_count_80 rfl (lv_at hl 2 rfl) ?_
                  refine x_get (ci := 7) (k := 75) hx hb ht in_M hown hw (by decide) o_M rfl 4 (by decide) (ht _ w_490) rfl d_M_count_81 ?_
                  refine lv_iload_n hx hb d_M_count_84 rfl (lv_at hl 0 rfl) ?_
                  refine x_iald (k := 80) hx hb hw (by decide) rfl (vin (N := 128) (by omega) rfl (by omega)) d_M_count_85 ?_
                  rw [nI_clamp (n := j) (by omega)]
                  refine lv_if_ge (tgt := 92) hx hb d_M_count_86 (by decide) (fun c86 => ?_) (fun c86 => ?_)
                  · refine lv_iload_n hx hb d_M_count_92 rfl (lv_at hl 3 rfl) ?_
                    refine lv_iconst (v := 1) hx hb d_M_count_93 (by decide) ?_
                    refine lv_icmp_eq (tgt := 114) hx hb d_M_count_94 (by decide) (fun c94 => ?_) (fun c94 => ?_)
                    · refine lv_iinc (v := ((c2F u x j) + 1)) (lv' := [(2, .int ((c2F u x j) + 1)), (3, .int (nI j)), (0, .ref (ad 75)), (1, .int x)]) hx hb d_M_count_114 hl (k := 1) rfl rfl (by decide) rfl (fun ls hl => ?_)
                      refine lv_iload_n hx hb d_M_count_117 rfl (lv_at hl 3 rfl) ?_
                      refine lv_sipush (v := 10000) hx hb d_M_count_118 (by decide) ?_
                      refine lv_icmp_ne (tgt := 133) hx hb d_M_count_121 (by decide) (fun c121 => ?_) (fun c121 => ?_)
                      · refine lv_iinc (v := (nI (j + 1))) (lv' := [(3, .int (nI (j + 1))), (2, .int ((c2F u x j) + 1)), (0, .ref (ad 75)), (1, .int x)]) hx hb d_M_count_133 hl (k := 1) rfl (nI_1 _) (by decide) rfl (fun ls hl => ?_)
                        refine lv_goto (tgt := 73) hx hb d_M_count_136 (by decide) ?_
                        exact ih73 (j + 1) (by omega) (by omega) _ _ hw ls (by rw [← (show ((c2F u x j) + 1) = (c2F u x (j + 1)) from (by first | (exact absurd (c94.symm.trans c121) (by decide)) | (exact absurd (c99.symm.trans c121) (by decide)) | (simp [c2F, c1, c7, c26, c77, c86, c94, c121]; done)))]; exact lv_sub hl [0, 1, 2, 3] rfl)
                      · refine lv_iload_n hx hb d_M_count_124 rfl (lv_at hl 0 rfl) ?_
                        refine lv_aload_n hx hb d_M_count_125 rfl (lv_at hl 2 rfl) ?_
                        refine x_get (ci := 7) (k := 75) hx hb ht in_M hown hw (by decide) o_M rfl 4 (by decide) (ht _ w_490) rfl d_M_count_126 ?_
                        refine lv_iload_n hx hb d_M_count_129 rfl (lv_at hl 1 rfl) ?_
                        refine x_iald (k := 80) hx hb hw (by decide) rfl (vin (N := 128) (by omega) rfl (by omega)) d_M_count_130 ?_
                        rw [nI_clamp (n := j) (by omega)]
                        refine lv_iadd hx hb d_M_count_131 ?_
                        refine lv_istore_n (lv' := [(2, .int (((c2F u x j) + 1) + (u.1 80 j))), (3, .int (nI j)), (0, .ref (ad 75)), (1, .int x)]) hx hb d_M_count_132 rfl hl (by decide) rfl (fun ls hl => ?_)
                        refine lv_iinc (v := (nI (j + 1))) (lv' := [(3, .int (nI (j + 1))), (2, .int (((c2F u x j) + 1) + (u.1 80 j))), (0, .ref (ad 75)), (1, .int x)]) hx hb d_M_count_133 hl (k := 1) rfl (nI_1 _) (by decide) rfl (fun ls hl => ?_)
                        refine lv_goto (tgt := 73) hx hb d_M_count_136 (by decide) ?_
                        exact ih73 (j + 1) (by omega) (by omega) _ _ hw ls (by rw [← (show (((c2F u x j) + 1) + (u.1 80 j)) = (c2F u x (j + 1)) from (by first | (exact absurd (c94.symm.trans c121) (by decide)) | (exact absurd (c99.symm.trans c121) (by decide)) | (simp [c2F, c1, c7, c26, c77, c86, c94, c121]; done)))]; exact lv_sub hl [0, 1, 2, 3] rfl)
                    · refine lv_iload_n hx hb d_M_count_97 rfl (lv_at hl 3 rfl) ?_
                      refine lv_iconst (v := 2) hx hb d_M_count_98 (by decide) ?_
                      refine lv_icmp_ne (tgt := 117) hx hb d_M_count_99 (by decide) (fun c99 => ?_) (fun c99 => ?_)
                      · refine lv_iload_n hx hb d_M_count_117 rfl (lv_at hl 3 rfl) ?_
                        refine lv_sipush (v := 10000) hx hb d_M_count_118 (by decide) ?_
                        refine lv_icmp_ne (tgt := 133) hx hb d_M_count_121 (by decide) (fun c121 => ?_) (fun c121 => ?_)
                        · refine lv_iinc (v := (nI (j + 1))) (lv' := [(3, .int (nI (j + 1))), (2, .int (c2F u x j)), (0, .ref (ad 75)), (1, .int x)]) hx hb d_M_count_133 hl (k := 0) rfl (nI_1 _) (by decide) rfl (fun ls hl => ?_)
                          refine lv_goto (tgt := 73) hx hb d_M_count_136 (by decide) ?_
                          exact ih73 (j + 1) (by omega) (by omega) _ _ hw ls (by rw [← (show (c2F u x j) = (c2F u x (j + 1)) from (by first | (exact absurd (c94.symm.trans c121) (by decide)) | (exact absurd (c99.symm.trans c121) (by decide)) | (simp [c2F, c1, c7, c26, c77, c86, c94, c99, c121]; done)))]; exact lv_sub hl [0, 1, 2, 3] rfl)
                        · refine lv_iload_n hx hb d_M_count_124 rfl (lv_at hl 1 rfl) ?_
                          refine lv_aload_n hx hb d_M_count_125 rfl (lv_at hl 2 rfl) ?_
                          refine x_get (ci := 7) (k := 75) hx hb ht in_M hown hw (by decide) o_M rfl 4 (by decide) (ht _ w_490) rfl d_M_count_126 ?_
                          refine lv_iload_n hx hb d_M_count_129 rfl (lv_at hl 0 rfl) ?_
                          refine x_iald (k := 80) hx hb hw (by decide) rfl (vin (N := 128) (by omega) rfl (by omega)) d_M_count_130 ?_
                          rw [nI_clamp (n := j) (by omega)]
                          refine lv_iadd hx hb d_M_count_131 ?_
                          refine lv_istore_n (lv' := [(2, .int ((c2F u x j) + (u.1 80 j))), (3, .int (nI j)), (0, .ref (ad 75)), (1, .int x)]) hx hb d_M_count_132 rfl hl (by decide) rfl (fun ls hl => ?_)
                          refine lv_iinc (v := (nI (j + 1))) (lv' := [(3, .int (nI (j + 1))), (2, .int ((c2F u x j) + (u.1 80 j))), (0, .ref (ad 75)), (1, .int x)]) hx hb d_M_count_133 hl (k := 1) rfl (nI_1 _) (by decide) rfl (fun ls hl => ?_)
                          refine lv_goto (tgt := 73) hx hb d_M_count_136 (by decide) ?_
                          exact ih73 (j + 1) (by omega) (by omega) _ _ hw ls (by rw [← (show ((c2F u x j) + (u.1 80 j)) = (c2F u x (j + 1)) from (by first | (exact absurd (c94.symm.trans c121) (by decide)) | (exact absurd (c99.symm.trans c121) (by decide)) | (simp [c2F, c1, c7, c26, c77, c86, c94, c99, c121]; done)))]; exact lv_sub hl [0, 1, 2, 3] rfl)
                      · refine lv_aload_n hx hb d_M_count_102 rfl (lv_at hl 2 rfl) ?_
                        refine x_get (ci := 7) (k := 75) hx hb ht in_M hown hw (by decide) o_M rfl 0 (by decide) (ht _ w_486) rfl d_M_count_103 ?_
                        refine lv_iload_n hx hb d_M_count_106 rfl (lv_at hl 0 rfl) ?_
                        refine lv_bipush (v := 16) hx hb d_M_count_107 (by decide) ?_
                        refine lv_irem hx hb d_M_count_109 (by decide) ?_
                        rw [show ((nI j) - (nI j) / 16 * 16) = (nI (j % 16)) from pk_rem (a := j) (d := 16) (by omega) (by decide) (by decide)]
                        refine x_zald (k := 76) hx hb hw (by decide) rfl (vin (N := 16) (by omega) rfl (by omega)) d_M_count_110 ?_
                        rw [nI_clamp (n := j % 16) (by omega)]
                        refine lv_if_eq (tgt := 117) hx hb d_M_count_111 (by decide) (fun c111 => ?_) (fun c111 => ?_)
                        · refine lv_iload_n hx hb d_M_count_117 rfl (lv_at hl 3 rfl) ?_
                          refine lv_sipush (v := 10000) hx hb d_M_count_118 (by decide) ?_
                          refine lv_icmp_ne (tgt := 133) hx hb d_M_count_121 (by decide) (fun c121 => ?_) (fun c121 => ?_)
                          · refine lv_iinc (v := (nI (j + 1))) (lv' := [(3, .int (nI (j + 1))), (2, .int (c2F u x j)), (0, .ref (ad 75)), (1, .int x)]) hx hb d_M_count_133 hl (k := 0) rfl (nI_1 _) (by decide) rfl (fun ls hl => ?_)
                            refine lv_goto (tgt := 73) hx hb d_M_count_136 (by decide) ?_
                            exact ih73 (j + 1) (by omega) (by omega) _ _ hw ls (by rw [← (show (c2F u x j) = (c2F u x (j + 1)) from (by first | (exact absurd (c94.symm.trans c121) (by decide)) | (exact absurd (c99.symm.trans c121) (by decide)) | (simp [c2F, c1, c7, c26, c77, c86, c94, c99, c111, c121]; done)))]; exact lv_sub hl [0, 1, 2, 3] rfl)
                          · refine lv_iload_n hx hb d_M_count_124 rfl (lv_at hl 1 rfl) ?_
                            refine lv_aload_n hx hb d_M_count_125 rfl (lv_at hl 2 rfl) ?_
                            refine x_get (ci := 7) (k := 75) hx hb ht in_M hown hw (by decide) o_M rfl 4 (by decide) (ht _ w_490) rfl d_M_count_126 ?_
                            refine lv_iload_n hx hb d_M_count_129 rfl (lv_at hl 0 rfl) ?_
                            refine x_iald (k := 80) hx hb hw (by decide) rfl (vin (N := 128) (by omega) rfl (by omega)) d_M_count_130 ?_
                            rw [nI_clamp (n := j) (by omega)]
                            refine lv_iadd hx hb d_M_count_131 ?_
                            refine lv_istore_n (lv' := [(2, .int ((c2F u x j) + (u.1 80 j))), (3, .int (nI j)), (0, .ref (ad 75)), (1, .int x)]) hx hb d_M_count_132 rfl hl (by decide) rfl (fun ls hl => ?_)
                            refine lv_iinc (v := (nI (j + 1))) (lv' := [(3, .int (nI (j + 1))), (2, .int ((c2F u x j) + (u.1 80 j))), (0, .ref (ad 75)), (1, .int x)]) hx hb d_M_count_133 hl (k := 1) rfl (nI_1 _) (by decide) rfl (fun ls hl => ?_)
                            refine lv_goto (tgt := 73) hx hb d_M_count_136 (by decide) ?_
                            exact ih73 (j + 1) (by omega) (by omega) _ _ hw ls (by rw [← (show ((c2F u x j) + (u.1 80 j)) = (c2F u x (j + 1)) from (by first | (exact absurd (c94.symm.trans c121) (by decide)) | (exact absurd (c99.symm.trans c121) (by decide)) | (simp [c2F, c1, c7, c26, c77, c86, c94, c99, c111, c121]; done)))]; exact lv_sub hl [0, 1, 2, 3] rfl)
                        · refine lv_iinc (v := ((c2F u x j) + 1)) (lv' := [(2, .int ((c2F u x j) + 1)), (3, .int (nI j)), (0, .ref (ad 75)), (1, .int x)]) hx hb d_M_count_114 hl (k := 1) rfl rfl (by decide) rfl (fun ls hl => ?_)
                          refine lv_iload_n hx hb d_M_count_117 rfl (lv_at hl 3 rfl) ?_
                          refine lv_sipush (v := 10000) hx hb d_M_count_118 (by decide) ?_
                          refine lv_icmp_ne (tgt := 133) hx hb d_M_count_121 (by decide) (fun c121 => ?_) (fun c121 => ?_)
                          · refine lv_iinc (v := (nI (j + 1))) (lv' := [(3, .int (nI (j + 1))), (2, .int ((c2F u x j) + 1)), (0, .ref (ad 75)), (1, .int x)]) hx hb d_M_count_133 hl (k := 1) rfl (nI_1 _) (by decide) rfl (fun ls hl => ?_)
                            refine lv_goto (tgt := 73) hx hb d_M_count_136 (by decide) ?_
                            exact ih73 (j + 1) (by omega) (by omega) _ _ hw ls (by rw [← (show ((c2F u x j) + 1) = (c2F u x (j + 1)) from (by first | (exact absurd (c94.symm.trans c121) (by decide)) | (exact absurd (c99.symm.trans c121) (by decide)) | (simp [c2F, c1, c7, c26, c77, c86, c94, c99, c111, c121]; done)))]; exact lv_sub hl [0, 1, 2, 3] rfl)
                          · refine lv_iload_n hx hb d_M_count_124 rfl (lv_at hl 0 rfl) ?_
                            refine lv_aload_n hx hb d_M_count_125 rfl (lv_at hl 2 rfl) ?_
                            refine x_get (ci := 7) (k := 75) hx hb ht in_M hown hw (by decide) o_M rfl 4 (by decide) (ht _ w_490) rfl d_M_count_126 ?_
                            refine lv_iload_n hx hb d_M_count_129 rfl (lv_at hl 1 rfl) ?_
                            refine x_iald (k := 80) hx hb hw (by decide) rfl (vin (N := 128) (by omega) rfl (by omega)) d_M_count_130 ?_
                            rw [nI_clamp (n := j) (by omega)]
                            refine lv_iadd hx hb d_M_count_131 ?_
                            refine lv_istore_n (lv' := [(2, .int (((c2F u x j) + 1) + (u.1 80 j))), (3, .int (nI j)), (0, .ref (ad 75)), (1, .int x)]) hx hb d_M_count_132 rfl hl (by decide) rfl (fun ls hl => ?_)
                            refine lv_iinc (v := (nI (j + 1))) (lv' := [(3, .int (nI (j + 1))), (2, .int (((c2F u x j) + 1) + (u.1 80 j))), (0, .ref (ad 75)), (1, .int x)]) hx hb d_M_count_133 hl (k := 1) rfl (nI_1 _) (by decide) rfl (fun ls hl => ?_)
                            refine lv_goto (tgt := 73) hx hb d_M_count_136 (by decide) ?_
                            exact ih73 (j + 1) (by omega) (by omega) _ _ hw ls (by rw [← (show (((c2F u x j) + 1) + (u.1 80 j)) = (c2F u x (j + 1)) from (by first | (exact absurd (c94.symm.trans c121) (by decide)) | (exact absurd (c99.symm.trans c121) (by decide)) | (simp [c2F, c1, c7, c26, c77, c86, c94, c99, c111, c121]; done)))]; exact lv_sub hl [0, 1, 2, 3] rfl)
                  · refine lv_goto (tgt := 133) hx hb d_M_count_89 (by decide) ?_
                    refine lv_iinc (v := (nI (j + 1))) (lv' := [(3, .int (nI (j + 1))), (2, .int (c2F u x j)), (0, .ref (ad 75)), (1, .int x)]) hx hb d_M_count_133 hl (k := 0) rfl (nI_1 _) (by decide) rfl (fun ls hl => ?_)
                    refine lv_goto (tgt := 73) hx hb d_M_count_136 (by decide) ?_
                    exact ih73 (j + 1) (by omega) (by omega) _ _ hw ls (by rw [← (show (c2F u x j) = (c2F u x (j + 1)) from (by first | (exact absurd (c94.symm.trans c121) (by decide)) | (exact absurd (c99.symm.trans c121) (by decide)) | (simp [c2F, c1, c7, c26, c77, c86]; done)))]; exact lv_sub hl [0, 1, 2, 3] rfl)
            exact L73 ((128 - 0) + 1) (0) (by omega) (by omega) _ _ hw ls (by rw [← (show (c1F u x t) = (c2F u x 0) from (by rw [show t = 16 by omega]; rfl))]; exact lv_sub hl [0, 1, 2, 3] rfl)
          · have h26 : ¬ (16) ≤ (t) := fun hz9 => c26 ((nI_leI (a := 16) (b := t) (by omega) (by omega)).mpr hz9)
            refine lv_aload_n hx hb d_M_count_29 rfl (lv_at hl 2 rfl) ?_
            refine x_get (ci := 7) (k := 75) hx hb ht in_M hown hw (by decide) o_M rfl 0 (by decide) (ht _ w_486) rfl d_M_count_30 ?_
            refine lv_iload_n hx hb d_M_count_33 rfl (lv_at hl 0 rfl) ?_
            refine x_zald (k := 76) hx hb hw (by decide) rfl (vin (N := 16) (by omega) rfl (by omega)) d_M_count_34 ?_
            rw [nI_clamp (n := t) (by omega)]
            refine lv_if_ne (tgt := 41) hx hb d_M_count_35 (by decide) (fun c35 => ?_) (fun c35 => ?_)
            · refine lv_iload_n hx hb d_M_count_41 rfl (lv_at hl 3 rfl) ?_
              refine lv_if_ne (tgt := 48) hx hb d_M_count_42 (by decide) (fun c42 => ?_) (fun c42 => ?_)
              · refine lv_iload_n hx hb d_M_count_48 rfl (lv_at hl 3 rfl) ?_
                refine lv_sipush (v := 1000) hx hb d_M_count_49 (by decide) ?_
                refine lv_icmp_ne (tgt := 65) hx hb d_M_count_52 (by decide) (fun c52 => ?_) (fun c52 => ?_)
                · refine lv_iinc (v := (nI (t + 1))) (lv' := [(3, .int (nI (t + 1))), (2, .int (c1F u x t)), (0, .ref (ad 75)), (1, .int x)]) hx hb d_M_count_65 hl (k := 0) rfl (nI_1 _) (by decide) rfl (fun ls hl => ?_)
                  refine lv_goto (tgt := 23) hx hb d_M_count_68 (by decide) ?_
                  exact ih23 (t + 1) (by omega) (by omega) _ _ hw ls (by rw [← (show (c1F u x t) = (c1F u x (t + 1)) from (by first | (exact absurd (c42.symm.trans c52) (by decide)) | (simp [c1F, ftM, c1, c7, c26, c35, c42, c52]; done)))]; exact lv_sub hl [0, 1, 2, 3] rfl)
                · refine lv_iload_n hx hb d_M_count_55 rfl (lv_at hl 1 rfl) ?_
                  refine lv_aload_n hx hb d_M_count_56 rfl (lv_at hl 2 rfl) ?_
                  refine lv_iconst (v := 0) hx hb d_M_count_57 (by decide) ?_
                  refine lv_iload_n hx hb d_M_count_58 rfl (lv_at hl 0 rfl) ?_
                  refine lv_iconst (v := 2) hx hb d_M_count_59 (by decide) ?_
                  refine x_ci (x_runV (na := 3) (k := 75) (As := [.int 0, .int (nI t), .int 2]) (rest := [.int (c1F u x t)]) (ci := 7) ⟨hx, hb, hml, hown, ht⟩ (m_M_featureOf 0 t 2 (by omega) (by omega) _) w_589 w_591 s_15 w_9 w_592 (by decide +kernel) ⟨rfl, rfl, by decide, by decide⟩ hw (by decide) o_M rfl rfl hl.1 rfl (Nat.le_of_ble_eq_true rfl) d_M_count_60 ⟨Nat.zero_le _, Nat.zero_le _⟩) hw hA (fun v60 u60 H locs hp hw => ?_)
                  obtain ⟨hv9, hu⟩ := hp
                  subst hv9
                  have hu := hu.symm
                  subst hu
                  refine lv_iadd hx hb d_M_count_63 ?_
                  refine lv_istore_n (lv' := [(2, .int ((c1F u x t) + (featF (fun i => u.1 78 (t * 12 + i)) (u.1 79 0) (u.1 77 t) 2))), (3, .int (nI t)), (0, .ref (ad 75)), (1, .int x)]) hx hb d_M_count_64 rfl hl (by decide) rfl (fun ls hl => ?_)
                  refine lv_iinc (v := (nI (t + 1))) (lv' := [(3, .int (nI (t + 1))), (2, .int ((c1F u x t) + (featF (fun i => u.1 78 (t * 12 + i)) (u.1 79 0) (u.1 77 t) 2))), (0, .ref (ad 75)), (1, .int x)]) hx hb d_M_count_65 hl (k := 1) rfl (nI_1 _) (by decide) rfl (fun ls hl => ?_)
                  refine lv_goto (tgt := 23) hx hb d_M_count_68 (by decide) ?_
                  exact ih23 (t + 1) (by omega) (by omega) _ _ hw ls (by rw [← (show ((c1F u x t) + (featF (fun i => u.1 78 (t * 12 + i)) (u.1 79 0) (u.1 77 t) 2)) = (c1F u x (t + 1)) from (by first | (exact absurd (c42.symm.trans c52) (by decide)) | (simp [c1F, ftM, c1, c7, c26, c35, c42, c52]; done)))]; exact lv_sub hl [0, 1, 2, 3] rfl)
              · refine lv_iinc (v := ((c1F u x t) + 1)) (lv' := [(2, .int ((c1F u x t) + 1)), (3, .int (nI t)), (0, .ref (ad 75)), (1, .int x)]) hx hb d_M_count_45 hl (k := 1) rfl rfl (by decide) rfl (fun ls hl => ?_)
                refine lv_iload_n hx hb d_M_count_48 rfl (lv_at hl 3 rfl) ?_
                refine lv_sipush (v := 1000) hx hb d_M_count_49 (by decide) ?_
                refine lv_icmp_ne (tgt := 65) hx hb d_M_count_52 (by decide) (fun c52 => ?_) (fun c52 => ?_)
                · refine lv_iinc (v := (nI (t + 1))) (lv' := [(3, .int (nI (t + 1))), (2, .int ((c1F u x t) + 1)), (0, .ref (ad 75)), (1, .int x)]) hx hb d_M_count_65 hl (k := 1) rfl (nI_1 _) (by decide) rfl (fun ls hl => ?_)
                  refine lv_goto (tgt := 23) hx hb d_M_count_68 (by decide) ?_
                  exact ih23 (t + 1) (by omega) (by omega) _ _ hw ls (by rw [← (show ((c1F u x t) + 1) = (c1F u x (t + 1)) from (by first | (exact absurd (c42.symm.trans c52) (by decide)) | (simp [c1F, ftM, c1, c7, c26, c35, c42, c52]; done)))]; exact lv_sub hl [0, 1, 2, 3] rfl)
                · refine lv_iload_n hx hb d_M_count_55 rfl (lv_at hl 0 rfl) ?_
                  refine lv_aload_n hx hb d_M_count_56 rfl (lv_at hl 2 rfl) ?_
                  refine lv_iconst (v := 0) hx hb d_M_count_57 (by decide) ?_
                  refine lv_iload_n hx hb d_M_count_58 rfl (lv_at hl 1 rfl) ?_
                  refine lv_iconst (v := 2) hx hb d_M_count_59 (by decide) ?_
                  refine x_ci (x_runV (na := 3) (k := 75) (As := [.int 0, .int (nI t), .int 2]) (rest := [.int ((c1F u x t) + 1)]) (ci := 7) ⟨hx, hb, hml, hown, ht⟩ (m_M_featureOf 0 t 2 (by omega) (by omega) _) w_589 w_591 s_15 w_9 w_592 (by decide +kernel) ⟨rfl, rfl, by decide, by decide⟩ hw (by decide) o_M rfl rfl hl.1 rfl (Nat.le_of_ble_eq_true rfl) d_M_count_60 ⟨Nat.zero_le _, Nat.zero_le _⟩) hw hA (fun v60 u60 H locs hp hw => ?_)
                  obtain ⟨hv9, hu⟩ := hp
                  subst hv9
                  have hu := hu.symm
                  subst hu
                  refine lv_iadd hx hb d_M_count_63 ?_
                  refine lv_istore_n (lv' := [(2, .int (((c1F u x t) + 1) + (featF (fun i => u.1 78 (t * 12 + i)) (u.1 79 0) (u.1 77 t) 2))), (3, .int (nI t)), (0, .ref (ad 75)), (1, .int x)]) hx hb d_M_count_64 rfl hl (by decide) rfl (fun ls hl => ?_)
                  refine lv_iinc (v := (nI (t + 1))) (lv' := [(3, .int (nI (t + 1))), (2, .int (((c1F u x t) + 1) + (featF (fun i => u.1 78 (t * 12 + i)) (u.1 79 0) (u.1 77 t) 2))), (0, .ref (ad 75)), (1, .int x)]) hx hb d_M_count_65 hl (k := 1) rfl (nI_1 _) (by decide) rfl (fun ls hl => ?_)
                  refine lv_goto (tgt := 23) hx hb d_M_count_68 (by decide) ?_
                  exact ih23 (t + 1) (by omega) (by omega) _ _ hw ls (by rw [← (show (((c1F u x t) + 1) + (featF (fun i => u.1 78 (t * 12 + i)) (u.1 79 0) (u.1 77 t) 2)) = (c1F u x (t + 1)) from (by first | (exact absurd (c42.symm.trans c52) (by decide)) | (simp [c1F, ftM, c1, c7, c26, c35, c42, c52]; done)))]; exact lv_sub hl [0, 1, 2, 3] rfl)
            · refine lv_goto (tgt := 65) hx hb d_M_count_38 (by decide) ?_
              refine lv_iinc (v := (nI (t + 1))) (lv' := [(3, .int (nI (t + 1))), (2, .int (c1F u x t)), (0, .ref (ad 75)), (1, .int x)]) hx hb d_M_count_65 hl (k := 0) rfl (nI_1 _) (by decide) rfl (fun ls hl => ?_)
              refine lv_goto (tgt := 23) hx hb d_M_count_68 (by decide) ?_
              exact ih23 (t + 1) (by omega) (by omega) _ _ hw ls (by rw [← (show (c1F u x t) = (c1F u x (t + 1)) from (by first | (exact absurd (c42.symm.trans c52) (by decide)) | (simp [c1F, ftM, c1, c7, c26, c35]; done)))]; exact lv_sub hl [0, 1, 2, 3] rfl)
      exact L23 ((16 - 0) + 1) (0) (by omega) (by omega) _ _ hw ls (lv_sub hl [0, 1, 2, 3] rfl)
    · obtain ⟨j, hj, hxj⟩ := neg_ix c1 c7
      refine lv_aload_n hx hb d_M_count_10 rfl (lv_at hl 0 rfl) ?_
      refine x_get (ci := 7) (k := 75) hx hb ht in_M hown hw (by decide) o_M rfl 3 (by decide) (ht _ w_489) rfl d_M_count_11 ?_
      refine lv_iconst (v := (-1)) hx hb d_M_count_14 (by decide) ?_
      refine lv_iload_n hx hb d_M_count_15 rfl (lv_at hl 1 rfl) ?_
      refine lv_isub hx hb d_M_count_16 ?_
      rw [show ((-1) - x) = (nI j) from hxj]
      refine x_iald (k := 79) hx hb hw (by decide) rfl (vin (N := 8) (by omega) rfl (by omega)) d_M_count_17 ?_
      rw [nI_clamp (n := j) (by omega)]
      exact x_iret hsz hx hb hr hlk hw (by have e := nI_clamp (n := j) (by omega); have c9 := ltz c1; simp [cntM, c9, c7, hxj, e]) d_M_count_18)
