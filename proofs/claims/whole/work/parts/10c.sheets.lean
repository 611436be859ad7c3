/-! SHEETS: sheet, lose, put, cell, copy; fault, trace -/
theorem s_isSheet (x : Int32) (h : PH) : f_X8_isSheet x h = some (if 0 ≤ x.toInt ∧ x.toInt < 4 then 1 else 0) := by
  unfold f_X8_isSheet
  simp only [i_lt, i_le, show (0 : Int32).toInt = 0 from rfl, show (4 : Int32).toInt = 4 from rfl]
  by_cases h1 : x.toInt < 0
  · rw [if_pos h1, if_neg (by omega)]
  · rw [if_neg h1]
    by_cases h2 : (4 : Int) ≤ x.toInt
    · rw [if_pos h2, if_neg (by omega)]
    · rw [if_neg h2, if_pos (by omega)]
theorem s_isLane (x : Int32) (h : PH) : f_X8_isLane x h = some (if 0 ≤ x.toInt ∧ x.toInt < 3 then 1 else 0) := by
  unfold f_X8_isLane
  simp only [i_lt, i_le, show (0 : Int32).toInt = 0 from rfl, show (3 : Int32).toInt = 3 from rfl]
  by_cases h1 : x.toInt < 0
  · rw [if_pos h1, if_neg (by omega)]
  · rw [if_neg h1]
    by_cases h2 : (3 : Int) ≤ x.toInt
    · rw [if_pos h2, if_neg (by omega)]
    · rw [if_neg h2, if_pos (by omega)]
theorem m_noSheet (x : Int32) (h : PH) : f_X12_noSheet x h = some (if 0 ≤ x.toInt ∧ x.toInt < 4 then 0 else 1) := by
  unfold f_X12_noSheet
  rw [f_ini, pu_b1]
  simp only [show (0 : Int64).toInt = 0 from rfl, show (3 : Int64).toInt = 3 from rfl]
  by_cases h1 : 0 ≤ x.toInt ∧ x.toInt ≤ 3
  · rw [if_pos h1, if_neg (by decide), if_pos (by omega)]
  · rw [if_neg h1, if_pos rfl, if_neg (by omega)]
theorem m_isLane (x : Int32) (h : PH) : f_X12_isLane x h = some (if 0 ≤ x.toInt ∧ x.toInt < 3 then 1 else 0) := by
  unfold f_X12_isLane
  rw [f_ini, pu_b1]
  simp only [show (0 : Int64).toInt = 0 from rfl, show (2 : Int64).toInt = 2 from rfl]
  by_cases h1 : 0 ≤ x.toInt ∧ x.toInt ≤ 2
  · rw [if_pos h1, if_pos (by omega), pu_g1]
  · rw [if_neg h1, if_neg (by omega), pu_g0]
theorem m_refused (x : Int32) (h : PH) : f_X12_refused x h = some (x, ph_i h 43 0 0) := rfl
theorem m_failed (x : Int32) (h : PH) : f_X12_failed x h = some (-10 - x, ph_i h 43 0 x) := rfl
theorem s_faulty (x : Int32) (h : PH) : f_X11_faulty x h = some (-10 - x, ph_i h 0 11 x) := rfl
theorem o_trace {n : Nat} {h : PH} (hi : Inv n h) : f_X11_trace h = some (h.1 42 0) ∧ f_X12_trace h = some (h.1 42 0) := by
  refine ⟨rfl, ?_⟩
  show some (h.1 43 44) = _
  rw [hi.2.1.2]
theorem o_fault {n : Nat} {h : PH} (hi : Inv n h) : f_X11_fault h = some (h.1 0 11) ∧ f_X12_fault h = some (h.1 0 11) := by
  refine ⟨rfl, ?_⟩
  show some (h.1 43 0) = _
  rw [hi.2.1.1]
/-- the lanes and lengths of a sheet change in both -/
theorem inv_sheet {n : Nat} {h g : PH} (hi : Inv n h) (er : ∀ a, sc_b a = false → a ≠ 2 → a ≠ 3 → a ≠ 4 → a ≠ 67 → a ≠ 68 → a ≠ 69 → g.1 a = h.1 a) (hs : iv_S g) (e43 : ∀ j, (j = 1 ∨ j = 2 ∨ j = 3 ∨ j = 19 ∨ j = 23 ∨ j = 37 ∨ j = 44) → g.1 43 j = h.1 43 j) (e0 : g.1 0 5 = h.1 0 5) (ef : g.1 0 11 = g.1 43 0) (e2 : g.2.2 = h.2.2) : Inv (n + 1) g := by
  have hb : sc_b 2 = false ∧ sc_b 3 = false := ⟨rfl, rfl⟩
  -- a heap with the sheets of before
  let m : PH := (fun a => if a = 2 ∨ a = 3 ∨ a = 4 ∨ a = 67 ∨ a = 68 ∨ a = 69 then h.1 a else g.1 a, g.2)
  have hm : Inv (n + 1) m := by
    refine inv_frame hi (fun a ha => ?_) (fun j hj => ?_) ?_ ?_ e2
    · show (if a = 2 ∨ a = 3 ∨ a = 4 ∨ a = 67 ∨ a = 68 ∨ a = 69 then h.1 a else g.1 a) = h.1 a
      by_cases hq : a = 2 ∨ a = 3 ∨ a = 4 ∨ a = 67 ∨ a = 68 ∨ a = 69
      · rw [if_pos hq]
      · rw [if_neg hq]
        exact er a ha (fun q => hq (by simp [q])) (fun q => hq (by simp [q])) (fun q => hq (by simp [q])) (fun q => hq (by simp [q])) (fun q => hq (by simp [q])) (fun q => hq (by simp [q]))
    · exact e43 j hj
    · exact e0
    · exact ef
  obtain ⟨_, q2, q3, q4, q5, q6, q7, q8⟩ := hm
  refine ⟨hs, q2, q3, q4, q5, ?_, q7, q8.1, ?_⟩
  · -- ways look at cells from 71 on
    have ec : ∀ o, ch_at g o = ch_at m o := fun o => rfl
    have eb : ∀ a, 71 ≤ a → m.1 a = g.1 a := fun a ha => if_neg (by omega)
    have ew : ∀ x o ci a k, iv_w m x o ci a k → iv_w g x o ci a k := by
      intro x o ci a k hw
      unfold iv_w at hw ⊢
      have w4 := hw.2.2.2.1
      have w5 := hw.2.2.2.2.1
      rw [eb o w4, eb a w5] at hw
      exact hw
    obtain ⟨w1, w2, w3, w4⟩ := q6
    refine ⟨w1, w2, fun x hx => ?_, fun p hp => ?_⟩
    · rcases w3 x hx with q | ⟨o, ci, a, k, q⟩
      · exact Or.inl q
      · exact Or.inr ⟨o, ci, a, k, ew x o ci a k q⟩
    · rcases w4 p hp with q | ⟨x, o, ci, a, k, j, r1, r2, r3, r4⟩
      · exact Or.inl q
      · refine Or.inr ⟨x, o, ci, a, k, j, r1, ew x o ci a k r2, r3, ?_⟩
        rw [← eb a r2.2.2.2.2.1]
        exact r4
  · exact wf_frame (h := m) (fun a ha => (if_neg (by omega)).symm) rfl q8.2
