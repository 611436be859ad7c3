theorem wy {h : PH} (hi : iv_W h) (x : Int32) : ((∀ g : PH, g.1 0 5 = h.1 0 5 → g.2.2 = h.2.2 → f_X11_wayOf x g = some none) ∧ ∀ g : PH, g.1 43 23 = h.1 43 23 → g.1 57 = h.1 57 → f_X12_noWay x g = some 1) ∨ ∃ k o ci a m : Nat, x = nI k ∧ k < hv_W h ∧ k < 6 ∧ iv_w h k o ci a m ∧ (∀ g : PH, g.1 0 5 = h.1 0 5 → g.2.2 = h.2.2 → f_X11_wayOf x g = some (some o)) ∧ ∀ g : PH, g.1 43 23 = h.1 43 23 → g.1 57 = h.1 57 → f_X12_noWay x g = some 0 := by
  obtain ⟨⟨w1, w2, w3⟩, w4, w5, w6⟩ := hi
  have z0 : (0 : Int64).toInt = 0 := rfl
  by_cases hx : 0 ≤ x.toInt ∧ x.toInt < hv_W h
  · obtain ⟨k, hk, rfl⟩ := ix_of hx.1 (n := hv_W h) (by omega) (by omega)
    have hk6 : k < 6 := by omega
    have hc : (nI k).toNatClampNeg = k := nI_clamp (by omega)
    have hin : ∀ g : PH, g.1 43 23 = h.1 43 23 → f_X12_in (nI k).toInt64 0 ((g.1 43 23).toInt64 - 1) g = some 1 := by
      intro g e
      rw [f_ini, e, w3, w1, nI_l1 (by omega), nI_toInt (by omega), if_pos (by omega)]
    have hcl : ∀ (g : PH) (v : Option Nat), g.1 0 5 = h.1 0 5 → g.2.2 = h.2.2 → h.2.2.1 22 k = v → f_X11_wayOf (nI k) g = some v := by
      intro g v e e2 hv
      unfold f_X11_wayOf
      rw [e, e2, w1]
      have h1 : ¬ hv_W h ≤ k := by omega
      have h2 : ¬ 6 ≤ k := by omega
      simp (disch := omega) only [pu_lt, pu_b1, pu_b2, pu_gn, n_0, n_1, n_2, n_3, n_4, n_5, n_6, n_7, n_8, n_9, n_10, n_14, n_20, n_31, n_48, n_59, n_70, n_98, n_99, n_100, n_104, n_200, n_1000, n_1M, n_10M, nI_add, nI_sub, nI_mul, nI_div, nI_clamp, nI_leI, nI_ltI, nI_eq, nI_ng, nI_nl, nI_nlt2, nI_nlt3, and_self, and_true, true_and, and_false, false_and, or_true, true_or, or_false, false_or, if_true, if_false, ↓reduceIte, not_true_eq_false, not_false_eq_true, reduceCtorEq, h1, h2, Nat.not_lt_zero, hv]
      cases v <;> rfl
    rcases w5 k hk with ⟨q1, q2⟩ | ⟨o, ci, a, m, q⟩
    · left
      refine ⟨fun g e e2 => hcl g none e e2 q1, fun g e e2 => ?_⟩
      unfold f_X12_noWay
      rw [hin g e, pu_b1, if_neg (by decide), pu_gn hk6 (by decide), e2, hc, q2, if_pos rfl]
    · right
      refine ⟨k, o, ci, a, m, rfl, hk, hk6, q, fun g e e2 => hcl g (some o) e e2 q.1, fun g e e2 => ?_⟩
      unfold f_X12_noWay
      rw [hin g e, pu_b1, if_neg (by decide), pu_gn hk6 (by decide), e2, hc, q.2.1, if_neg (by decide)]
  · left
    refine ⟨fun g e e2 => ?_, fun g e e2 => ?_⟩
    · unfold f_X11_wayOf
      by_cases h0 : 0 ≤ x.toInt
      · rw [if_neg (nI_nlt0 h0), e, w1, if_pos (by rw [i_le, nI_toInt (by omega)]; omega)]
      · rw [if_pos (nI_lt0 (by omega))]
    · unfold f_X12_noWay
      rw [f_ini, e, w3, w1, nI_l1 (by omega), if_neg (by omega), pu_b1, if_pos rfl]
theorem pu_gl {β : Type} (h h1 : PH) (k : Option β) (e : h1.2.2.2 = h.2.2.2) : gl_y h h1 k = k := by
  unfold gl_y
  rw [if_pos e]
/-- both leave the same traces -/
theorem inv_tr {n : Nat} {h g : PH} (hi : Inv n h) (e : ∀ a, a ≠ 42 → a ≠ 43 → g.1 a = h.1 a) (e43 : ∀ j, j ≠ 44 → g.1 43 j = h.1 43 j) (et : g.1 42 0 = g.1 43 44) (e2 : g.2.2 = h.2.2) : Inv (n + 1) g := by
  obtain ⟨hS, hF, hH, hX, hP, hW, hR, hC⟩ := hi
  have E : ∀ a, a ≠ 42 → a ≠ 43 → g.1 a = h.1 a := e
  refine ⟨fr_S hS (E _ (by decide) (by decide)) (E _ (by decide) (by decide)) (E _ (by decide) (by decide)) (E _ (by decide) (by decide)) (E _ (by decide) (by decide)) (E _ (by decide) (by decide)), ⟨by rw [E 0 (by decide) (by decide), e43 0 (by decide)]; exact hF.1, et⟩, ?_, ?_, ?_, ?_, ?_, fr_C hC (fun a ha => E a (by omega) (by omega)) e2⟩
  · apply fr_H hH <;> first | exact E _ (by decide) (by decide) | exact e43 _ (by decide)
  · apply fr_X hX <;> first | exact E _ (by decide) (by decide) | exact congrFun (E _ (by decide) (by decide)) _
  · apply fr_P hP <;> first | exact E _ (by decide) (by decide) | exact congrFun (E _ (by decide) (by decide)) _ | exact e43 _ (by decide)
  · apply fr_W hW <;> first | exact E _ (by decide) (by decide) | exact congrFun (E _ (by decide) (by decide)) _ | exact e43 _ (by decide) | exact (fun a ha => E a (by omega) (by omega)) | exact e2
  · apply fr_R hR <;> first | exact E _ (by decide) (by decide) | exact congrFun (E _ (by decide) (by decide)) _ | exact e43 _ (by decide)
theorem s_leave (v : Int32) (h : PH) : f_X1_leave v h = some ((), ph_i h 42 0 (31 * h.1 42 0 + v)) := by
  unfold f_X1_leave
  rfl
theorem m_traced (v : Int32) (h : PH) : f_X12_traced v h = some ((), ph_i h 43 44 (31 * h.1 43 44 + v)) := rfl
theorem s_toc {ci a n o : Nat} {h : PH} (ho : 71 ≤ o) (hz : ¬ h.1 o 2 = 0) : f_X1_tellingOfChain ci a n o h = some (nI n, ph_i h 42 0 (31 * h.1 42 0 + 1)) := by
  unfold f_X1_tellingOfChain
  have e : (ph_i h 42 0 (31 * h.1 42 0 + 1)).1 o 2 = h.1 o 2 := by rw [pr_row, if_neg (by omega)]
  rw [s_leave, pu_b2]
  simp only [gl_y, pr_2, if_true, e, pu_gz hz]
  rfl
theorem o_label {n : Nat} {h : PH} (hi : Inv n h) (x : Int32) : ∃ r h1 h2, f_X11_label x h = some (r, h1) ∧ f_X12_label x h1 = some (r, h2) ∧ Inv (n + 1) h2 := by
  have hW := hi.2.2.2.2.2.1
  rcases wy hW x with ⟨w1, w2⟩ | ⟨k, o, ci, a, m, rfl, hk, hk6, hw, w1, w2⟩
  · refine ⟨-1, h, h, ?_, ?_, inv_up hi⟩
    · simp [f_X11_label, w1 h rfl rfl, pu_b1, mo_b]
    · simp [f_X12_label, w2 h rfl rfl, pu_b1]
  · have hc : (nI k).toNatClampNeg = k := nI_clamp (by omega)
    have hw' := hw
    obtain ⟨q1, q2, q3, q4, q5, q6, q7, q8, q9, q10, q11, q12, q13, q14, q15⟩ := hw'
    rcases q10 with ⟨rfl, q⟩ | ⟨rfl, q⟩ | ⟨rfl, q⟩
    · refine ⟨nI k, ph_i h 42 0 (31 * h.1 42 0 + 4), ph_i (ph_i h 42 0 (31 * h.1 42 0 + 4)) 43 44 (31 * h.1 43 44 + 4), ?_, ?_, ?_⟩
      · have e : (ph_i h 42 0 (31 * h.1 42 0 + 4)).1 o = h.1 o := by rw [pr_row, if_neg (by omega)]
        simp only [f_X11_label, w1 h rfl rfl, pu_b1, mo_b, q3, vd_labelled, f_X1_labelled, s_leave, pu_b2, gl_y, pr_2, e, q7, if_true]
      · have e : (ph_i (ph_i h 42 0 (31 * h.1 42 0 + 4)) 43 44 (31 * h.1 43 44 + 4)).1 58 = h.1 58 := by rw [pr_row, if_neg (by decide), pr_row, if_neg (by decide)]
        simp [f_X12_label, w2 (ph_i h 42 0 (31 * h.1 42 0 + 4)) rfl rfl, pu_b1, pu_gn hk6, hc, m_traced, pu_b2, pr_row, q]
      · refine inv_tr hi (fun a h1 h2 => by rw [pr_row, if_neg h2, pr_row, if_neg h1]) (fun j hj => by simp [pr_row, up_at, hj]) ?_ rfl
        simp [pr_row, up_at, hi.2.1.2]
    · refine ⟨nI k, ph_i h 42 0 (31 * h.1 42 0 + 4), ph_i (ph_i h 42 0 (31 * h.1 42 0 + 4)) 43 44 (31 * h.1 43 44 + 4), ?_, ?_, ?_⟩
      · have e : (ph_i h 42 0 (31 * h.1 42 0 + 4)).1 o = h.1 o := by rw [pr_row, if_neg (by omega)]
        simp only [f_X11_label, w1 h rfl rfl, pu_b1, mo_b, q3, vd_labelled, f_X1_labelled, s_leave, pu_b2, gl_y, pr_2, e, q7, if_true, Nat.reduceEqDiff, if_false]
      · simp [f_X12_label, w2 (ph_i h 42 0 (31 * h.1 42 0 + 4)) rfl rfl, pu_b1, pu_gn hk6, hc, m_traced, pu_b2, pr_row, q]
      · refine inv_tr hi (fun a h1 h2 => by rw [pr_row, if_neg h2, pr_row, if_neg h1]) (fun j hj => by simp [pr_row, up_at, hj]) ?_ rfl
        simp [pr_row, up_at, hi.2.1.2]
    · refine ⟨70, ph_i h 42 0 (31 * h.1 42 0 + 5), ph_i (ph_i h 42 0 (31 * h.1 42 0 + 5)) 43 44 (31 * h.1 43 44 + 5), ?_, ?_, ?_⟩
      · simp only [f_X11_label, w1 h rfl rfl, pu_b1, mo_b, q3, vd_labelled, f_X9_labelled, s_leave, pu_b2, if_true, Nat.reduceEqDiff, if_false, gl_y, pr_2]
      · simp [f_X12_label, w2 (ph_i h 42 0 (31 * h.1 42 0 + 5)) rfl rfl, pu_b1, pu_gn hk6, hc, m_traced, pu_b2, pr_row, q]
      · refine inv_tr hi (fun a h1 h2 => by rw [pr_row, if_neg h2, pr_row, if_neg h1]) (fun j hj => by simp [pr_row, up_at, hj]) ?_ rfl
        simp [pr_row, up_at, hi.2.1.2]
theorem o_tell {n : Nat} {h : PH} (hi : Inv n h) (x : Int32) : ∃ r h1 h2, f_X11_tell x h = some (r, h1) ∧ f_X12_tell x h1 = some (r, h2) ∧ Inv (n + 1) h2 := by
  have hW := hi.2.2.2.2.2.1
  rcases wy hW x with ⟨w1, w2⟩ | ⟨k, o, ci, a, m, rfl, hk, hk6, hw, w1, w2⟩
  · refine ⟨-1, h, h, ?_, ?_, inv_up hi⟩
    · simp [f_X11_tell, w1 h rfl rfl, pu_b1, mo_b]
    · simp [f_X12_tell, w2 h rfl rfl, pu_b1]
  · have hc : (nI k).toNatClampNeg = k := nI_clamp (by omega)
    have hw' := hw
    obtain ⟨q1, q2, q3, q4, q5, q6, q7, q8, q9, q10, q11, q12, q13, q14, q15⟩ := hw'
    have e : ∀ (g : PH) (v : Int32), (ph_i g 42 0 v).1 o = g.1 o := fun g v => by rw [pr_row, if_neg (by omega)]
    have e42 : ∀ (g : PH) (v : Int32), (ph_i g 42 0 v).1 42 0 = v := fun g v => by rw [pr_row, if_pos rfl, up_at, if_pos rfl]
    have e43 : ∀ (g : PH) (v : Int32), (ph_i g 43 44 v).1 43 44 = v := fun g v => by rw [pr_row, if_pos rfl, up_at, if_pos rfl]
    rcases q10 with ⟨rfl, q⟩ | ⟨rfl, q⟩ | ⟨rfl, q⟩
    · refine ⟨nI m, ph_i h 42 0 (31 * h.1 42 0 + 1), ph_i (ph_i h 42 0 (31 * h.1 42 0 + 1)) 43 44 (31 * h.1 43 44 + 1), ?_, ?_, ?_⟩
      · simp only [f_X11_tell, w1 h rfl rfl, pu_b1, mo_b, q3, vd_telling, f_X1_telling, s_toc q4 q6, pu_b2, if_true, gl_y, pr_2]
      · simp [f_X12_tell, w2 (ph_i h 42 0 (31 * h.1 42 0 + 1)) rfl rfl, pu_b1, pu_lt, pu_gn hk6, hc, m_traced, pu_b2, pr_row, q, q13]
      · refine inv_tr hi (fun a h1 h2 => by rw [pr_row, if_neg h2, pr_row, if_neg h1]) (fun j hj => by simp [pr_row, up_at, hj]) ?_ rfl
        simp [pr_row, up_at, hi.2.1.2]
    · refine ⟨nI m + 100, ph_i h 42 0 (31 * (31 * h.1 42 0 + 2) + 1), ph_i (ph_i h 42 0 (31 * (31 * h.1 42 0 + 2) + 1)) 43 44 (31 * (31 * h.1 43 44 + 2) + 1), ?_, ?_, ?_⟩
      · have t := s_toc (ci := 7) (a := a) (n := m) (h := ph_i h 42 0 (31 * h.1 42 0 + 2)) q4 (by rw [e]; exact q6)
        rw [e42, ph_ii] at t
        simp only [f_X11_tell, w1 h rfl rfl, pu_b1, mo_b, q3, vd_telling, f_X7_telling, s_leave, pu_b2, if_true, Nat.reduceEqDiff, if_false, gl_y, pr_2, t]
      · simp [f_X12_tell, w2 (ph_i h 42 0 (31 * (31 * h.1 42 0 + 2) + 1)) rfl rfl, pu_b1, pu_lt, pu_gn hk6, hc, m_traced, pu_b2, q, q13, e43, ph_ii, pr_row, up_at]
      · refine inv_tr hi (fun a h1 h2 => by rw [pr_row, if_neg h2, pr_row, if_neg h1]) (fun j hj => by simp [pr_row, up_at, hj]) ?_ rfl
        simp [pr_row, up_at, hi.2.1.2]
    · refine ⟨nI m + 100 + nI m, ph_i h 42 0 (31 * (31 * (31 * (31 * h.1 42 0 + 3) + 2) + 1) + 1), ph_i (ph_i h 42 0 (31 * (31 * (31 * (31 * h.1 42 0 + 3) + 2) + 1) + 1)) 43 44 (31 * (31 * (31 * (31 * h.1 43 44 + 3) + 2) + 1) + 1), ?_, ?_, ?_⟩
      · have t := s_toc (ci := 9) (a := a) (n := m) (h := ph_i h 42 0 (31 * (31 * h.1 42 0 + 3) + 2)) q4 (by rw [e]; exact q6)
        have t2 := s_toc (ci := 9) (a := a) (n := m) (h := ph_i h 42 0 (31 * (31 * (31 * h.1 42 0 + 3) + 2) + 1)) q4 (by rw [e]; exact q6)
        rw [e42, ph_ii] at t t2
        simp only [f_X11_tell, w1 h rfl rfl, pu_b1, mo_b, q3, vd_telling, f_X9_telling, f_X7_telling, s_leave, pu_b2, Nat.reduceEqDiff, if_false, e42, ph_ii, gl_y, pr_2, if_true, t, t2]
      · have e2 : nI m + 100 + nI m = 2 * nI m + 100 := by
          simp (disch := omega) only [pu_lt, pu_b1, pu_b2, pu_gn, n_0, n_1, n_2, n_3, n_4, n_5, n_6, n_7, n_8, n_9, n_10, n_14, n_20, n_31, n_48, n_59, n_70, n_98, n_99, n_100, n_104, n_200, n_1000, n_1M, n_10M, nI_add, nI_sub, nI_mul, nI_div, nI_clamp, nI_leI, nI_ltI, nI_eq, nI_ng, nI_nl, nI_nlt2, nI_nlt3, and_self, and_true, true_and, and_false, false_and, or_true, true_or, or_false, false_or, if_true, if_false, ↓reduceIte, not_true_eq_false, not_false_eq_true, reduceCtorEq]
          omega
        rw [e2]
        simp [f_X12_tell, w2 (ph_i h 42 0 (31 * (31 * (31 * (31 * h.1 42 0 + 3) + 2) + 1) + 1)) rfl rfl, pu_b1, pu_lt, pu_gn hk6, hc, m_traced, pu_b2, q, q13, e43, ph_ii, pr_row, up_at]
      · refine inv_tr hi (fun a h1 h2 => by rw [pr_row, if_neg h2, pr_row, if_neg h1]) (fun j hj => by simp [pr_row, up_at, hj]) ?_ rfl
        simp [pr_row, up_at, hi.2.1.2]
