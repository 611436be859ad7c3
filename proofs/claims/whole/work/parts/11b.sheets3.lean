theorem nI_l1 {m : Nat} (h : m < 2 ^ 31) : ((nI m).toInt64 - 1).toInt = (m : Int) - 1 := by
  have h1 : ((1 : Int64)).toInt = 1 := rfl
  have h2 : ((nI m).toInt64).toInt = (m : Int) := by rw [i_l, nI_toInt h]
  rw [l_sub (by omega) (by omega), h2, h1]
theorem m_noCell1 {k : Nat} (hk : k < 4) (y : Int32) (h : PH) (q : h.1 67 k = -1) : f_X12_noCell (nI k) y h = some 1 := by
  unfold f_X12_noCell
  have hc : (nI k).toNatClampNeg = k := nI_clamp (by omega)
  simp [pu_gn hk, hc, q, neg1_nle]
theorem m_noCell2 {k m : Nat} (hk : k < 4) (hm : m ≤ 100) (y : Int32) (h : PH) (q : h.1 67 k = nI m) : f_X12_noCell (nI k) y h = some (if 0 ≤ y.toInt ∧ y.toInt < m then 0 else 3) := by
  unfold f_X12_noCell
  have hc : (nI k).toNatClampNeg = k := nI_clamp (by omega)
  simp only [pu_gn hk, hc, q, nI_nn (show m < 2 ^ 31 by omega), f_ini, pu_b1, if_true, nI_l1 (show m < 2 ^ 31 by omega)]
  rw [pu_gn hk (by decide), pu_gn hk (by decide)]
  have e : ((0 : Int64).toInt ≤ y.toInt ∧ y.toInt ≤ (m : Int) - 1) ↔ (0 ≤ y.toInt ∧ y.toInt < m) := by
    have h0 : (0 : Int64).toInt = 0 := rfl
    omega
  simp only [e]
  by_cases h1 : 0 ≤ y.toInt ∧ y.toInt < m
  · simp [h1]
  · simp [h1]
theorem s_hasNothing1 {k : Nat} (hk : k < 4) (h : PH) (q : h.1 2 k = -1) : f_X8_hasNothing (nI k) h = some 1 := by
  have hc : (nI k).toNatClampNeg = k := nI_clamp (by omega)
  simp [f_X8_hasNothing, pu_gn hk, hc, q]
theorem s_hasNothing2 {k t : Nat} (hk : k < 4) (ht : t ≤ 2) (h : PH) (q : h.1 2 k = nI t) : f_X8_hasNothing (nI k) h = some 0 := by
  have hc : (nI k).toNatClampNeg = k := nI_clamp (by omega)
  simp [f_X8_hasNothing, pu_gn hk, hc, q, nI_n1 (show t < 2 ^ 31 by omega)]
theorem s_isCell {k m : Nat} (hk : k < 4) (hm : m ≤ 100) (y : Int32) (h : PH) (q : h.1 3 k = nI m) : f_X8_isCell (nI k) y h = some (if 0 ≤ y.toInt ∧ y.toInt < m then 1 else 0) := by
  have hc : (nI k).toNatClampNeg = k := nI_clamp (by omega)
  unfold f_X8_isCell
  by_cases h0 : 0 ≤ y.toInt
  · obtain ⟨j, hj, rfl⟩ := x_of h0
    rw [if_neg (nI_pos hj), pu_gn hk (by decide), hc, q, nI_toInt hj]
    by_cases h1 : j < m
    · rw [if_neg (nI_ge h1 (by omega)), if_pos (by omega)]
    · rw [if_pos (nI_le (by omega) hj), if_neg (by omega)]
  · rw [if_pos (nI_lt0 (by omega)), if_neg (by omega)]
theorem r11 (h : PH) (a : Nat) (v : Int32) (ha : a ≠ 0) : (ph_i h 0 11 v).1 a = h.1 a := by rw [pr_row, if_neg ha]
theorem r43 (h : PH) (a : Nat) (v : Int32) (ha : a ≠ 43) : (ph_i h 43 0 v).1 a = h.1 a := by rw [pr_row, if_neg ha]
theorem s_cut {t : Nat} (ht : t ≤ 2) (v : Int32) (h : PH) : f_X8_cut (nI t) v h = some (if t = 0 then v.toInt8.toInt32 else if t = 1 then v.toInt16.toInt32 else v) := by
  unfold f_X8_cut
  simp (disch := omega) only [pu_lt, pu_b1, pu_b2, pu_gn, n_0, n_1, n_2, n_3, n_4, n_5, n_6, n_7, n_8, n_9, n_10, n_14, n_20, n_31, n_48, n_59, n_70, n_98, n_99, n_100, n_104, n_200, n_1000, n_1M, n_10M, nI_add, nI_sub, nI_mul, nI_div, nI_clamp, nI_leI, nI_ltI, nI_eq, nI_ng, nI_nl, nI_nlt2, nI_nlt3, and_self, and_true, true_and, and_false, false_and, or_true, true_or, or_false, false_or, if_true, if_false, ↓reduceIte, not_true_eq_false, not_false_eq_true, reduceCtorEq]
  by_cases h0 : t = 0
  · simp [h0]
  · by_cases h1 : t = 1
    · simp [h1]
    · simp [h0, h1]
theorem o_put {n : Nat} {h : PH} (hi : Inv n h) (x y z : Int32) : ∃ r h1 h2, f_X11_put x y z h = some (r, h1) ∧ f_X12_put x y z h1 = some (r, h2) ∧ Inv (n + 1) h2 := by
  by_cases hs : 0 ≤ x.toInt ∧ x.toInt < 4
  · obtain ⟨k, hk, rfl⟩ := sh_in hs
    have hc : (nI k).toNatClampNeg = k := nI_clamp (by omega)
    rcases hi.1.2 k hk with ⟨q1, q2⟩ | ⟨m, t, hm, ht, q1, q2, q3, q4⟩
    · refine ⟨-10 - 1, ph_i (ph_i h 0 11 0) 0 11 1, ph_i (ph_i (ph_i h 0 11 0) 0 11 1) 43 0 1, ?_, ?_, by rw [ph_ii]; exact inv_flt hi 1⟩
      · simp [f_X11_put, s_isSheet, hs, pu_b1, pu_lt, s_hasNothing1 hk (ph_i h 0 11 0) (by rw [r11 _ _ _ (by decide)]; exact q1), s_faulty, pu_b2]
      · simp [f_X12_put, m_noSheet, hs, pu_b1, pu_lt, m_noCell1 hk y (ph_i (ph_i h 0 11 0) 0 11 1) (by rw [r11 _ _ _ (by decide), r11 _ _ _ (by decide)]; exact q2), m_failed, pu_b2]
    · by_cases hy : 0 ≤ y.toInt ∧ y.toInt < m
      · obtain ⟨j, hj, rfl⟩ := x_of hy.1
        rw [nI_toInt hj] at hy
        have hjm : j < m := by omega
        have hw : ∃ w : Int32, (if t = 0 then z.toInt8.toInt32 else if t = 1 then z.toInt16.toInt32 else z) = w := ⟨_, rfl⟩
        obtain ⟨w, hw⟩ := hw
        refine ⟨1, ph_i (ph_i h 0 11 0) 4 (k * 100 + j) w, ph_i (ph_i (ph_i (ph_i h 0 11 0) 4 (k * 100 + j) w) 69 (k * 100 + j) w) 43 0 0, ?_, ?_, ?_⟩
        · simp only [f_X11_put, s_isSheet, hs, pu_b1, pu_lt, s_hasNothing2 hk ht (ph_i h 0 11 0) (by rw [r11 _ _ _ (by decide)]; exact q1), s_isCell hk hm (nI j) (ph_i h 0 11 0) (by rw [r11 _ _ _ (by decide)]; exact q3), nI_toInt hj, hy, f_X8_spot]
          simp only [pr_row, hc, q1, s_cut ht, hw]
          simp (disch := omega) only [pu_lt, pu_b1, pu_b2, pu_gn, n_0, n_1, n_2, n_3, n_4, n_5, n_6, n_7, n_8, n_9, n_10, n_14, n_20, n_31, n_48, n_59, n_70, n_98, n_99, n_100, n_104, n_200, n_1000, n_1M, n_10M, nI_add, nI_sub, nI_mul, nI_div, nI_clamp, nI_leI, nI_ltI, nI_eq, nI_ng, nI_nl, nI_nlt2, nI_nlt3, and_self, and_true, true_and, and_false, false_and, or_true, true_or, or_false, false_or, if_true, if_false, ↓reduceIte, not_true_eq_false, not_false_eq_true, reduceCtorEq, Nat.zero_le, q1, s_cut ht, hw, Nat.reduceEqDiff, Nat.succ_ne_zero]
        · simp only [f_X12_put, m_noSheet, hs, pu_b1, pu_lt, m_noCell2 hk hm (nI j) (ph_i (ph_i h 0 11 0) 4 (k * 100 + j) w) (by rw [pr_row, if_neg (by decide), r11 _ _ _ (by decide)]; exact q4), nI_toInt hj, hy]
          simp (disch := omega) only [pu_lt, pu_b1, pu_b2, pu_gn, n_0, n_1, n_2, n_3, n_4, n_5, n_6, n_7, n_8, n_9, n_10, n_14, n_20, n_31, n_48, n_59, n_70, n_98, n_99, n_100, n_104, n_200, n_1000, n_1M, n_10M, nI_add, nI_sub, nI_mul, nI_div, nI_clamp, nI_leI, nI_ltI, nI_eq, nI_ng, nI_nl, nI_nlt2, nI_nlt3, and_self, and_true, true_and, and_false, false_and, or_true, true_or, or_false, false_or, if_true, if_false, ↓reduceIte, not_true_eq_false, not_false_eq_true, reduceCtorEq, Nat.le_refl, m_refused, Nat.mul_comm 100 k, pr_row, q2, Nat.reduceEqDiff, Nat.succ_ne_zero]
          by_cases h0 : t = 0
          · simp only [h0, if_true] at hw ⊢
            simp [hw]
          · by_cases h1 : t = 1
            · simp [h1] at hw ⊢
              simp [hw]
            · simp [h0, h1] at hw ⊢
              simp [hw]
        · refine inv_sheet hi (fun a ha h2 h3 h4 h5 h6 h7 => ?_) ?_ (fun i hi2 => ?_) ?_ ?_ rfl
          · have h0 : a ≠ 0 := fun q => by subst q; cases ha
            have h43 : a ≠ 43 := fun q => by subst q; cases ha
            simp [pr_row, h0, h4, h7, h43]
          · refine ⟨?_, fun i hi2 => ?_⟩
            · simp [pr_row, hi.1.1]
            · have := hi.1.2 i hi2
              simp [pr_row]
              simpa using this
          · have hj0 : i ≠ 0 := by omega
            simp [pr_row, up_at, hj0]
          · simp [pr_row, up_at]
          · simp [pr_row, up_at]
      · refine ⟨-10 - 3, ph_i (ph_i h 0 11 0) 0 11 3, ph_i (ph_i (ph_i h 0 11 0) 0 11 3) 43 0 3, ?_, ?_, by rw [ph_ii]; exact inv_flt hi 3⟩
        · simp [f_X11_put, s_isSheet, hs, pu_b1, pu_lt, s_hasNothing2 hk ht (ph_i h 0 11 0) (by rw [r11 _ _ _ (by decide)]; exact q1), s_isCell hk hm y (ph_i h 0 11 0) (by rw [r11 _ _ _ (by decide)]; exact q3), hy, s_faulty, pu_b2]
        · simp [f_X12_put, m_noSheet, hs, pu_b1, pu_lt, m_noCell2 hk hm y (ph_i (ph_i h 0 11 0) 0 11 3) (by rw [r11 _ _ _ (by decide), r11 _ _ _ (by decide)]; exact q4), hy, m_failed, pu_b2]
  · refine ⟨-1, ph_i h 0 11 0, ph_i (ph_i h 0 11 0) 43 0 0, ?_, ?_, inv_flt hi 0⟩
    · simp [f_X11_put, s_isSheet, hs, pu_lt, pu_b1]
    · simp [f_X12_put, m_noSheet, hs, pu_b1, m_refused, pu_b2]
theorem s_faultOfRow1 {k : Nat} (hk : k < 4) (t2 : Int32) (h : PH) (q : h.1 2 k = -1) : f_X8_faultOfRow (nI k) t2 h = some 1 := by
  simp [f_X8_faultOfRow, s_hasNothing1 hk h q, pu_b1]
theorem s_faultOfRow2 {k t : Nat} (hk : k < 4) (ht : t ≤ 2) (t2 : Int32) (h : PH) (q : h.1 2 k = nI t) : f_X8_faultOfRow (nI k) t2 h = some (if nI t = t2 then 0 else 2) := by
  have hc : (nI k).toNatClampNeg = k := nI_clamp (by omega)
  simp only [f_X8_faultOfRow, s_hasNothing2 hk ht h q, pu_b1, pu_gn hk, hc, q]
  rw [if_pos trivial, pu_gn hk (by decide)]
  by_cases h1 : nI t = t2 <;> simp [h1]
theorem o_cell {n : Nat} {h : PH} (hi : Inv n h) (x y z : Int32) : ∃ r h1 h2, f_X11_cell x y z h = some (r, h1) ∧ f_X12_cell x y z h1 = some (r, h2) ∧ Inv (n + 1) h2 := by
  by_cases hs : 0 ≤ x.toInt ∧ x.toInt < 4
  · by_cases hl : 0 ≤ z.toInt ∧ z.toInt < 3
    · obtain ⟨k, hk, rfl⟩ := sh_in hs
      have hc : (nI k).toNatClampNeg = k := nI_clamp (by omega)
      rcases hi.1.2 k hk with ⟨q1, q2⟩ | ⟨m, t, hm, ht, q1, q2, q3, q4⟩
      · refine ⟨-9223372036854775808, ph_i (ph_i h 0 11 0) 0 11 1, ph_i (ph_i (ph_i (ph_i h 0 11 0) 0 11 1) 43 0 0) 43 0 1, ?_, ?_, by rw [ph_ii, ph_ii]; exact inv_flt hi 1⟩
        · simp [f_X11_cell, s_isSheet, s_isLane, hs, hl, pu_b1, pu_lt, s_faultOfRow1 hk z (ph_i h 0 11 0) (by rw [r11 _ _ _ (by decide)]; exact q1)]
        · have e : (ph_i (ph_i (ph_i h 0 11 0) 0 11 1) 43 0 0).1 67 k = -1 := by rw [r43 _ _ _ (by decide), r11 _ _ _ (by decide), r11 _ _ _ (by decide)]; exact q2
          simp [f_X12_cell, m_noSheet, m_isLane, hs, hl, pu_b1, pu_lt, pu_gn hk, hc, e, neg1_lt, m_noCell1 hk y _ e, f_X12_failedLong, f_X12_lost, pu_b2]
      · by_cases hz : nI t = z
        · subst hz
          by_cases hy : 0 ≤ y.toInt ∧ y.toInt < m
          · obtain ⟨j, hj, rfl⟩ := x_of hy.1
            rw [nI_toInt hj] at hy
            have hjm : j < m := by omega
            refine ⟨(h.1 4 (k * 100 + j)).toInt64, ph_i h 0 11 0, ph_i (ph_i h 0 11 0) 43 0 0, ?_, ?_, inv_flt hi 0⟩
            · simp only [f_X11_cell, s_isSheet, s_isLane, hs, hl, pu_b1, pu_lt, s_faultOfRow2 hk ht (nI t) (ph_i h 0 11 0) (by rw [r11 _ _ _ (by decide)]; exact q1), s_isCell hk hm (nI j) (ph_i h 0 11 0) (by rw [r11 _ _ _ (by decide)]; exact q3), nI_toInt hj, hy, f_X8_spot]
              simp (disch := omega) only [pu_lt, pu_b1, pu_b2, pu_gn, n_0, n_1, n_2, n_3, n_4, n_5, n_6, n_7, n_8, n_9, n_10, n_14, n_20, n_31, n_48, n_59, n_70, n_98, n_99, n_100, n_104, n_200, n_1000, n_1M, n_10M, nI_add, nI_sub, nI_mul, nI_div, nI_clamp, nI_leI, nI_ltI, nI_eq, nI_ng, nI_nl, nI_nlt2, nI_nlt3, and_self, and_true, true_and, and_false, false_and, or_true, true_or, or_false, false_or, if_true, if_false, ↓reduceIte, not_true_eq_false, not_false_eq_true, reduceCtorEq, r11 h 4 _ (by decide), Nat.succ_ne_zero]
            · have e : (ph_i (ph_i h 0 11 0) 43 0 0).1 67 k = nI m := by rw [r43 _ _ _ (by decide), r11 _ _ _ (by decide)]; exact q4
              have e2 : (ph_i (ph_i h 0 11 0) 43 0 0).1 68 k = nI t := by rw [r43 _ _ _ (by decide), r11 _ _ _ (by decide)]; exact q2
              simp only [f_X12_cell, m_noSheet, m_isLane, hs, hl, pu_b1, pu_lt, hc, e, e2, m_noCell2 hk hm (nI j) _ e, nI_toInt hj, hy]
              have e3 : ((ph_i (ph_i h 0 11 0) 43 0 0).1 69) = h.1 4 := by rw [r43 _ _ _ (by decide), r11 _ _ _ (by decide)]; exact hi.1.1.symm
              rw [e3]
              simp (disch := omega) only [pu_lt, pu_b1, pu_b2, pu_gn, n_0, n_1, n_2, n_3, n_4, n_5, n_6, n_7, n_8, n_9, n_10, n_14, n_20, n_31, n_48, n_59, n_70, n_98, n_99, n_100, n_104, n_200, n_1000, n_1M, n_10M, nI_add, nI_sub, nI_mul, nI_div, nI_clamp, nI_leI, nI_ltI, nI_eq, nI_ng, nI_nl, nI_nlt2, nI_nlt3, and_self, and_true, true_and, and_false, false_and, or_true, true_or, or_false, false_or, if_true, if_false, ↓reduceIte, not_true_eq_false, not_false_eq_true, reduceCtorEq, Nat.succ_ne_zero, Nat.not_lt_zero, Nat.le_refl, Nat.mul_comm 100 k]
          · refine ⟨-9223372036854775808, ph_i (ph_i h 0 11 0) 0 11 3, ph_i (ph_i (ph_i (ph_i h 0 11 0) 0 11 3) 43 0 0) 43 0 3, ?_, ?_, by rw [ph_ii, ph_ii]; exact inv_flt hi 3⟩
            · simp [f_X11_cell, s_isSheet, s_isLane, hs, hl, pu_b1, pu_lt, s_faultOfRow2 hk ht (nI t) (ph_i h 0 11 0) (by rw [r11 _ _ _ (by decide)]; exact q1), s_isCell hk hm y (ph_i h 0 11 0) (by rw [r11 _ _ _ (by decide)]; exact q3), hy]
            · have e : (ph_i (ph_i (ph_i h 0 11 0) 0 11 3) 43 0 0).1 67 k = nI m := by rw [r43 _ _ _ (by decide), r11 _ _ _ (by decide), r11 _ _ _ (by decide)]; exact q4
              have e2 : (ph_i (ph_i (ph_i h 0 11 0) 0 11 3) 43 0 0).1 68 k = nI t := by rw [r43 _ _ _ (by decide), r11 _ _ _ (by decide), r11 _ _ _ (by decide)]; exact q2
              simp [f_X12_cell, m_noSheet, m_isLane, hs, hl, pu_b1, pu_lt, pu_gn hk, hc, e, e2, nI_pos (show m < 2 ^ 31 by omega), m_noCell2 hk hm y _ e, hy, f_X12_failedLong, f_X12_lost, pu_b2]
        · refine ⟨-9223372036854775808, ph_i (ph_i h 0 11 0) 0 11 2, ph_i (ph_i (ph_i (ph_i h 0 11 0) 0 11 2) 43 0 0) 43 0 2, ?_, ?_, by rw [ph_ii, ph_ii]; exact inv_flt hi 2⟩
          · simp [f_X11_cell, s_isSheet, s_isLane, hs, hl, pu_b1, pu_lt, s_faultOfRow2 hk ht z (ph_i h 0 11 0) (by rw [r11 _ _ _ (by decide)]; exact q1), hz]
          · have e : (ph_i (ph_i (ph_i h 0 11 0) 0 11 2) 43 0 0).1 67 k = nI m := by rw [r43 _ _ _ (by decide), r11 _ _ _ (by decide), r11 _ _ _ (by decide)]; exact q4
            have e2 : (ph_i (ph_i (ph_i h 0 11 0) 0 11 2) 43 0 0).1 68 k = nI t := by rw [r43 _ _ _ (by decide), r11 _ _ _ (by decide), r11 _ _ _ (by decide)]; exact q2
            simp [f_X12_cell, m_noSheet, m_isLane, hs, hl, pu_b1, pu_lt, pu_gn hk, hc, e, e2, nI_pos (show m < 2 ^ 31 by omega), hz, f_X12_failedLong, f_X12_lost, pu_b2]
    · refine ⟨-9223372036854775808, ph_i h 0 11 0, ph_i (ph_i h 0 11 0) 43 0 0, ?_, ?_, inv_flt hi 0⟩
      · simp [f_X11_cell, s_isSheet, s_isLane, hs, hl, pu_lt, pu_b1]
      · simp [f_X12_cell, m_noSheet, m_isLane, hs, hl, pu_lt, pu_b1, f_X12_lost]
  · refine ⟨-9223372036854775808, ph_i h 0 11 0, ph_i (ph_i h 0 11 0) 43 0 0, ?_, ?_, inv_flt hi 0⟩
    · simp [f_X11_cell, s_isSheet, hs, pu_lt, pu_b1]
    · simp [f_X12_cell, m_noSheet, hs, pu_lt, pu_b1, f_X12_lost]
