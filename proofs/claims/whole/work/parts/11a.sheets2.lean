theorem neg1_lt : ((-1 : Int32) < 0) := by decide
theorem neg1_nle : ¬ ((0 : Int32) ≤ -1) := by decide
theorem nI_nn {m : Nat} (h : m < 2 ^ 31) : (0 : Int32) ≤ nI m := nI_pos' h
theorem nI_n1 {m : Nat} (h : m < 2 ^ 31) : ¬ nI m = -1 := by
  intro q
  have := congrArg Int32.toInt q
  rw [nI_toInt h] at this
  have h2 : (-1 : Int32).toInt = -1 := rfl
  omega
theorem sh_in {x : Int32} (hs : 0 ≤ x.toInt ∧ x.toInt < 4) : ∃ k : Nat, k < 4 ∧ x = nI k := ix_of hs.1 (by have := hs.2; omega) (by decide)
theorem la_in {x : Int32} (hs : 0 ≤ x.toInt ∧ x.toInt < 3) : ∃ k : Nat, k < 3 ∧ x = nI k := ix_of hs.1 (by have := hs.2; omega) (by decide)
theorem o_lose {n : Nat} {h : PH} (hi : Inv n h) (x : Int32) : ∃ r h1 h2, f_X11_lose x h = some (r, h1) ∧ f_X12_lose x h1 = some (r, h2) ∧ Inv (n + 1) h2 := by
  by_cases hs : 0 ≤ x.toInt ∧ x.toInt < 4
  · obtain ⟨k, hk, rfl⟩ := sh_in hs
    have hc : (nI k).toNatClampNeg = k := nI_clamp (by omega)
    rcases hi.1.2 k hk with ⟨q1, q2⟩ | ⟨m, t, hm, ht, q1, q2, q3, q4⟩
    · refine ⟨0, h, ph_i h 67 k (-1), ?_, ?_, ?_⟩
      · simp [f_X11_lose, s_isSheet, hs, pu_b1, f_X8_hasNothing, pu_gn hk, hc, q1]
      · simp [f_X12_lose, m_noSheet, hs, pu_b1, pu_lt, pu_gn hk, hc, q2, neg1_nle]
      · refine inv_sheet hi (fun a ha h2 h3 h4 h5 h6 h7 => by rw [pr_row, if_neg h5]) ?_ (fun j hj => rfl) rfl hi.2.1.1 rfl
        have e : (ph_i h 67 k (-1)).1 67 = h.1 67 := by
          rw [pr_row, if_pos rfl]
          funext i
          rw [up_at]
          by_cases hik : i = k
          · rw [if_pos hik, hik, q2]
          · rw [if_neg hik]
        refine ⟨hi.1.1, fun j hj => ?_⟩
        rw [e]
        exact hi.1.2 j hj
    · refine ⟨1, ph_i h 2 k (-1), ph_i (ph_i h 2 k (-1)) 67 k (-1), ?_, ?_, ?_⟩
      · simp [f_X11_lose, s_isSheet, hs, pu_b1, pu_lt, f_X8_hasNothing, pu_gn hk, hc, q1, nI_n1 (show t < 2 ^ 31 by omega)]
      · simp [f_X12_lose, m_noSheet, hs, pu_b1, pu_lt, pu_gn hk, hc, pr_row, q4, nI_nn (show m < 2 ^ 31 by omega)]
      · refine inv_sheet hi (fun a ha h2 h3 h4 h5 h6 h7 => by rw [pr_row, if_neg h5, pr_row, if_neg h2]) ?_ (fun j hj => rfl) rfl hi.2.1.1 rfl
        refine ⟨hi.1.1, fun j hj => ?_⟩
        by_cases hjk : j = k
        · subst hjk; left; simp [pr_row, up_at]
        · have := hi.1.2 j hj
          simp [pr_row, up_at, hjk]
          simpa using this
  · refine ⟨-1, h, h, ?_, ?_, inv_up hi⟩
    · simp [f_X11_lose, s_isSheet, hs, pu_b1]
    · simp [f_X12_lose, m_noSheet, hs, pu_b1]
/-- zeros in a piece of a row -/
def zf (f : Nat → Int32) (b n : Nat) : Nat → Int32 := fun j => if b ≤ j ∧ j < b + n then nI 0 else f j
theorem zf_0 (f : Nat → Int32) (b : Nat) : zf f b 0 = f := by
  funext j
  unfold zf
  rw [if_neg (by omega)]
theorem zf_s (f : Nat → Int32) (b i : Nat) : upd (zf f b i) (b + i) (nI 0) = zf f b (i + 1) := by
  funext j
  rw [up_at]
  unfold zf
  by_cases h1 : j = b + i
  · rw [if_pos h1, if_pos (by omega)]
  · rw [if_neg h1]
    by_cases h2 : b ≤ j ∧ j < b + i
    · rw [if_pos h2, if_pos (by omega)]
    · rw [if_neg h2, if_neg (by omega)]
theorem l_renew {k n : Nat} (hk : k < 4) (hn : n ≤ 100) (g : PH) : lp_f (fun s => lb_X8_renew_17 (nI k) (nI n) s.1 s.2) fu_l (nI 0, g) = some (nI n, ph_r g 4 (zf (g.1 4) (k * 100) n)) := by
  have h0 : (nI 0, g) = (fun i => ((nI i), ph_r g 4 (zf (g.1 4) (k * 100) i))) 0 := by
    show _ = (nI 0, _)
    rw [zf_0, ph_rid]
  rw [h0]
  refine lp_cnt (fun i => ((nI i), ph_r g 4 (zf (g.1 4) (k * 100) i))) n _ (fun i hi => ?_) ?_ fu_l 0 (by omega) (by unfold fu_l; omega)
  · unfold lb_X8_renew_17
    simp only [f_X8_spot]
    have h1 : ¬ n ≤ i := by omega
    simp (disch := omega) only [pu_lt, pu_b1, pu_b2, pu_gn, n_0, n_1, n_2, n_3, n_4, n_5, n_6, n_7, n_8, n_9, n_10, n_14, n_20, n_31, n_48, n_59, n_70, n_98, n_99, n_100, n_104, n_200, n_1000, n_1M, n_10M, nI_add, nI_sub, nI_mul, nI_div, nI_clamp, nI_leI, nI_ltI, nI_eq, nI_ng, nI_nl, nI_nlt2, nI_nlt3, and_self, and_true, true_and, and_false, false_and, or_true, true_or, or_false, false_or, if_true, if_false, ↓reduceIte, not_true_eq_false, not_false_eq_true, reduceCtorEq, h1, ph_ri, zf_s]
  · unfold lb_X8_renew_17
    simp (disch := omega) only [pu_lt, pu_b1, pu_b2, pu_gn, n_0, n_1, n_2, n_3, n_4, n_5, n_6, n_7, n_8, n_9, n_10, n_14, n_20, n_31, n_48, n_59, n_70, n_98, n_99, n_100, n_104, n_200, n_1000, n_1M, n_10M, nI_add, nI_sub, nI_mul, nI_div, nI_clamp, nI_leI, nI_ltI, nI_eq, nI_ng, nI_nl, nI_nlt2, nI_nlt3, and_self, and_true, true_and, and_false, false_and, or_true, true_or, or_false, false_or, if_true, if_false, ↓reduceIte, not_true_eq_false, not_false_eq_true, reduceCtorEq, Nat.le_refl]
theorem l_sheet {k n : Nat} (hk : k < 4) (hn : n ≤ 100) (g : PH) : lp_f (fun s => lb_X12_sheet_60 (nI k) (nI n) s.1 s.2) fu_l (nI 0, g) = some (nI n, ph_r g 69 (zf (g.1 69) (k * 100) n)) := by
  have h0 : (nI 0, g) = (fun i => ((nI i), ph_r g 69 (zf (g.1 69) (k * 100) i))) 0 := by
    show _ = (nI 0, _)
    rw [zf_0, ph_rid]
  rw [h0]
  refine lp_cnt (fun i => ((nI i), ph_r g 69 (zf (g.1 69) (k * 100) i))) n _ (fun i hi => ?_) ?_ fu_l 0 (by omega) (by unfold fu_l; omega)
  · unfold lb_X12_sheet_60
    have h1 : ¬ n ≤ i := by omega
    simp (disch := omega) only [pu_lt, pu_b1, pu_b2, pu_gn, n_0, n_1, n_2, n_3, n_4, n_5, n_6, n_7, n_8, n_9, n_10, n_14, n_20, n_31, n_48, n_59, n_70, n_98, n_99, n_100, n_104, n_200, n_1000, n_1M, n_10M, nI_add, nI_sub, nI_mul, nI_div, nI_clamp, nI_leI, nI_ltI, nI_eq, nI_ng, nI_nl, nI_nlt2, nI_nlt3, and_self, and_true, true_and, and_false, false_and, or_true, true_or, or_false, false_or, if_true, if_false, ↓reduceIte, not_true_eq_false, not_false_eq_true, reduceCtorEq, h1, ph_ri, zf_s, Nat.mul_comm 100 k]
  · unfold lb_X12_sheet_60
    simp (disch := omega) only [pu_lt, pu_b1, pu_b2, pu_gn, n_0, n_1, n_2, n_3, n_4, n_5, n_6, n_7, n_8, n_9, n_10, n_14, n_20, n_31, n_48, n_59, n_70, n_98, n_99, n_100, n_104, n_200, n_1000, n_1M, n_10M, nI_add, nI_sub, nI_mul, nI_div, nI_clamp, nI_leI, nI_ltI, nI_eq, nI_ng, nI_nl, nI_nlt2, nI_nlt3, and_self, and_true, true_and, and_false, false_and, or_true, true_or, or_false, false_or, if_true, if_false, ↓reduceIte, not_true_eq_false, not_false_eq_true, reduceCtorEq, Nat.le_refl]
theorem o_sheet {n : Nat} {h : PH} (hi : Inv n h) (x y z : Int32) : ∃ r h1 h2, f_X11_sheet x y z h = some (r, h1) ∧ f_X12_sheet x y z h1 = some (r, h2) ∧ Inv (n + 1) h2 := by
  by_cases hs : 0 ≤ x.toInt ∧ x.toInt < 4
  · by_cases hl : 0 ≤ y.toInt ∧ y.toInt < 3
    · by_cases hz : z.toInt ≤ 100
      · have hz' : z ≤ 100 := by rw [i_le]; exact hz
        by_cases hz0 : 0 ≤ z.toInt
        · obtain ⟨k, hk, rfl⟩ := sh_in hs
          obtain ⟨t, ht, rfl⟩ := la_in hl
          obtain ⟨m, hm, rfl⟩ := x_of hz0
          rw [nI_toInt hm] at hz
          refine ⟨1, ph_r (ph_i (ph_i (ph_i h 0 11 0) 2 k (nI t)) 3 k (nI m)) 4 (zf (h.1 4) (k * 100) m), ph_i (ph_r (ph_i (ph_i (ph_r (ph_i (ph_i (ph_i h 0 11 0) 2 k (nI t)) 3 k (nI m)) 4 (zf (h.1 4) (k * 100) m)) 67 k (nI m)) 68 k (nI t)) 69 (zf (h.1 69) (k * 100) m)) 43 0 0, ?_, ?_, ?_⟩
          · unfold f_X11_sheet
            simp only [s_isSheet, s_isLane, hs, hl, pu_lt, pu_b1, f_X8_renew, hz']
            have hm1 : m ≤ 100 := by omega
            simp (disch := omega) only [pu_lt, pu_b1, pu_b2, pu_gn, n_0, n_1, n_2, n_3, n_4, n_5, n_6, n_7, n_8, n_9, n_10, n_14, n_20, n_31, n_48, n_59, n_70, n_98, n_99, n_100, n_104, n_200, n_1000, n_1M, n_10M, nI_add, nI_sub, nI_mul, nI_div, nI_clamp, nI_leI, nI_ltI, nI_eq, nI_ng, nI_nl, nI_nlt2, nI_nlt3, and_self, and_true, true_and, and_false, false_and, or_true, true_or, or_false, false_or, if_true, if_false, ↓reduceIte, not_true_eq_false, not_false_eq_true, reduceCtorEq, hm1, Nat.zero_le, l_renew hk hm1, pr_row, Nat.reduceEqDiff]
          · unfold f_X12_sheet
            simp only [m_noSheet, m_isLane, hs, hl, pu_lt, pu_b1, hz']
            have hm1 : m ≤ 100 := by omega
            simp (disch := omega) only [pu_lt, pu_b1, pu_b2, pu_gn, n_0, n_1, n_2, n_3, n_4, n_5, n_6, n_7, n_8, n_9, n_10, n_14, n_20, n_31, n_48, n_59, n_70, n_98, n_99, n_100, n_104, n_200, n_1000, n_1M, n_10M, nI_add, nI_sub, nI_mul, nI_div, nI_clamp, nI_leI, nI_ltI, nI_eq, nI_ng, nI_nl, nI_nlt2, nI_nlt3, and_self, and_true, true_and, and_false, false_and, or_true, true_or, or_false, false_or, if_true, if_false, ↓reduceIte, not_true_eq_false, not_false_eq_true, reduceCtorEq, hm1, Nat.zero_le, l_sheet hk hm1, pr_row, pr_rr, Nat.reduceEqDiff, m_refused]
          · refine inv_sheet hi (fun a ha h2 h3 h4 h5 h6 h7 => ?_) ?_ (fun j hj => ?_) ?_ ?_ rfl
            · have h0 : a ≠ 0 := fun q => by subst q; cases ha
              have h43 : a ≠ 43 := fun q => by subst q; cases ha
              simp [pr_row, pr_rr, h0, h2, h3, h4, h5, h6, h7, h43]
            · refine ⟨?_, fun j hj => ?_⟩
              · simp [pr_row, pr_rr, hi.1.1]
              · by_cases hjk : j = k
                · right
                  exact ⟨m, t, by omega, by omega, by simp [pr_row, pr_rr, up_at, hjk], by simp [pr_row, pr_rr, up_at, hjk], by simp [pr_row, pr_rr, up_at, hjk], by simp [pr_row, pr_rr, up_at, hjk]⟩
                · have := hi.1.2 j hj
                  simp [pr_row, pr_rr, up_at, hjk]
                  simpa using this
            · have hj0 : j ≠ 0 := by omega
              simp [pr_row, pr_rr, up_at, hj0]
            · simp [pr_row, pr_rr, up_at]
            · simp [pr_row, pr_rr, up_at]
        · refine ⟨-10 - 4, ph_i (ph_i h 0 11 0) 0 11 4, ph_i (ph_i (ph_i h 0 11 0) 0 11 4) 43 0 4, ?_, ?_, ?_⟩
          · have := nI_nge0 (show z.toInt < 0 by omega)
            simp [f_X11_sheet, s_isSheet, s_isLane, hs, hl, pu_lt, pu_b1, hz', this, s_faulty, pu_b2]
          · have := nI_nge0 (show z.toInt < 0 by omega)
            simp [f_X12_sheet, m_noSheet, m_isLane, hs, hl, pu_lt, pu_b1, hz', this, m_failed, pu_b2]
          · rw [ph_ii]; exact inv_flt hi 4
      · have hz' : ¬ z ≤ 100 := by rw [i_le]; exact hz
        refine ⟨-2, ph_i h 0 11 0, ph_i (ph_i h 0 11 0) 43 0 0, ?_, ?_, inv_flt hi 0⟩
        · simp [f_X11_sheet, s_isSheet, s_isLane, hs, hl, pu_lt, pu_b1, hz']
        · simp [f_X12_sheet, m_noSheet, m_isLane, hs, hl, pu_lt, pu_b1, hz', m_refused, pu_b2]
    · refine ⟨-2, ph_i h 0 11 0, ph_i (ph_i h 0 11 0) 43 0 0, ?_, ?_, inv_flt hi 0⟩
      · simp [f_X11_sheet, s_isSheet, s_isLane, hs, hl, pu_lt, pu_b1]
      · simp [f_X12_sheet, m_noSheet, m_isLane, hs, hl, pu_lt, pu_b1, m_refused, pu_b2]
  · refine ⟨-1, ph_i h 0 11 0, ph_i (ph_i h 0 11 0) 43 0 0, ?_, ?_, inv_flt hi 0⟩
    · simp [f_X11_sheet, s_isSheet, hs, pu_lt, pu_b1]
    · simp [f_X12_sheet, m_noSheet, hs, pu_b1, m_refused, pu_b2]
