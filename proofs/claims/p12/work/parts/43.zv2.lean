/-! count of a new object: the queries are empty, so the TERMS of a query are 0 in either reading -/
theorem win_q {j : Nat} (hj : j < 8) : ¬ withinF (nI j) 7 = 0 := by
  rcases (show j = 0 ∨ j = 1 ∨ j = 2 ∨ j = 3 ∨ j = 4 ∨ j = 5 ∨ j = 6 ∨ j = 7 by omega) with rfl | rfl | rfl | rfl | rfl | rfl | rfl | rfl
  all_goals decide
theorem bc_0 : bcF 0 = 0 := by decide +kernel
theorem ans_count1 {u : St} (h : Jnv u) (hz : u = u0) (x : Int32) : (cntX u x (nX u)).1 = (cntM (cntX u x (nX u)).2 x (nM (cntX u x (nX u)).2)).1 := by
  by_cases c : ¬ x < 0 ∨ x < -8
  · exact ans_count0 h x c
  · have c0 : x < 0 := Classical.byContradiction (fun z => c (Or.inl z))
    have c8 : ¬ x < -8 := fun z => c (Or.inr z)
    obtain ⟨j, hj, e⟩ := neg_ix (fun z : 0 ≤ x => absurd c0 (gez z)) c8
    rw [cntX_2]
    unfold cntX cntM
    rw [if_pos c0, if_pos (And.intro c0 c8), e, if_neg (win_q hj)]
    have e2 : ∀ k, u.1 2 k = 0 := fun k => by rw [hz]; rfl
    have e79 : ∀ k, u.1 79 k = 0 := fun k => by rw [hz]; rfl
    show bcF (u.1 2 _) = u.1 79 _
    rw [e2, e79]
    exact bc_0
