theorem s_areCells {k m : Nat} (hk : k < 4) (hm : m ≤ 100) (y z : Int32) (h : PH) (q : h.1 3 k = nI m) : f_X8_areCells (nI k) y z h = some (if 0 ≤ y.toInt ∧ y.toInt ≤ m ∧ y.toInt + z.toInt ≤ m then 1 else 0) := by
  have hc : (nI k).toNatClampNeg = k := nI_clamp (by omega)
  unfold f_X8_areCells
  by_cases h0 : 0 ≤ y.toInt
  · obtain ⟨j, hj, rfl⟩ := x_of h0
    rw [if_neg (nI_pos hj), pu_gn hk (by decide), pu_gn hk (by decide), hc, q, nI_toInt hj]
    by_cases h1 : j ≤ m
    · rw [if_neg (nI_nlt h1 (by omega)), nI_sub h1]
      have e : (nI (m - j) < z) ↔ ((m : Int) - j < z.toInt) := by
        rw [i_lt, nI_toInt (by omega)]
        omega
      by_cases h2 : (m : Int) - j < z.toInt
      · rw [if_pos (e.mpr h2), if_neg (by omega)]
      · rw [if_neg (fun q => h2 (e.mp q)), if_pos (by omega)]
    · rw [if_pos (nI_lt (by omega) hj), if_neg (by omega)]
  · rw [if_pos (nI_lt0 (by omega)), if_neg (by omega)]
theorem m_isBeyond {m : Nat} (hm : m ≤ 100) (y z : Int32) (h : PH) : f_X12_isBeyond y z.toInt64 (nI m) h = some (if 0 ≤ y.toInt ∧ 0 ≤ z.toInt ∧ y.toInt + z.toInt ≤ m then 0 else 1) := by
  unfold f_X12_isBeyond
  have hy := i_rng y
  have hz := i_rng z
  by_cases h0 : 0 ≤ y.toInt
  · rw [if_neg (nI_nlt0 h0)]
    by_cases h1 : 0 ≤ z.toInt
    · have e1 : ¬ z.toInt64 < 0 := by
        rw [l_lt, i_l]
        have : (0 : Int64).toInt = 0 := rfl
        omega
      rw [if_neg (fun q => e1 ((lg_cmp_lt _ _).mp q))]
      have e2 : (y.toInt64 + z.toInt64).toInt = y.toInt + z.toInt := by
        rw [l_add (by rw [i_l, i_l]; omega) (by rw [i_l, i_l]; omega), i_l, i_l]
      have e3 : (nI m).toInt64 < y.toInt64 + z.toInt64 ↔ (m : Int) < y.toInt + z.toInt := by
        rw [l_lt, e2, i_l, nI_toInt (by omega)]
      have e4 : (lg_cmp (y.toInt64 + z.toInt64) (nI m).toInt64 ≤ 0) ↔ ¬ ((m : Int) < y.toInt + z.toInt) := by
        rw [← e3, ← lg_cmp_gt, i_le, i_lt]
        omega
      by_cases h2 : (m : Int) < y.toInt + z.toInt
      · rw [if_neg (fun q => (e4.mp q) h2), if_neg (by omega)]
      · rw [if_pos (e4.mpr h2), if_pos (by omega)]
    · have e1 : z.toInt64 < 0 := by
        rw [l_lt, i_l]
        have : (0 : Int64).toInt = 0 := rfl
        omega
      rw [if_pos ((lg_cmp_lt _ _).mpr e1), if_neg (by omega)]
  · rw [if_pos (nI_lt0 (by omega)), if_neg (by omega)]
/-- what is said of a piece of a sheet, by both -/
theorem fo_cells {h g g2 : PH} (hi : iv_S h) {k : Nat} (hk : k < 4) (l y z : Int32) (e2 : g.1 2 = h.1 2) (e3 : g.1 3 = h.1 3) (e67 : g2.1 67 = h.1 67) (e68 : g2.1 68 = h.1 68) : ∃ f : Nat, f ≤ 4 ∧ f_X8_faultOfCells (nI k) l y z g = some (nI f) ∧ f_X12_barred (nI k) l y z.toInt64 g2 = some (if f = 0 then (0, g2) else (-10 - nI f, ph_i g2 43 0 (nI f))) ∧ (f = 0 → ∃ m j c : Nat, m ≤ 100 ∧ h.1 3 k = nI m ∧ y = nI j ∧ z = nI c ∧ j + c ≤ m) := by
  have hc : (nI k).toNatClampNeg = k := nI_clamp (by omega)
  rcases hi.2 k hk with ⟨q1, q2⟩ | ⟨m, t, hm, ht, q1, q2, q3, q4⟩
  · refine ⟨1, by omega, ?_, ?_, fun q => by omega⟩
    · simp [f_X8_faultOfCells, s_faultOfRow1 hk l g (by rw [e2]; exact q1), pu_b1]
      rfl
    · have e : g2.1 67 k = -1 := by rw [e67]; exact q2
      simp [f_X12_barred, pu_gn hk, hc, e, neg1_lt, neg1_nle, m_failed, pu_b2]
      exact ⟨by decide, rfl⟩
  · have r67 : g2.1 67 k = nI m := by rw [e67]; exact q4
    have r68 : g2.1 68 k = nI t := by rw [e68]; exact q2
    by_cases hl : nI t = l
    · subst hl
      by_cases hz : 0 ≤ z.toInt
      · have hz1 : (0 : Int32) ≤ z := nI_ge0 hz
        have e1 : ¬ z.toInt64 < 0 := by
          rw [l_lt, i_l]
          have : (0 : Int64).toInt = 0 := rfl
          omega
        have e2' : (0 : Int32) ≤ lg_cmp z.toInt64 0 := by
          rw [i_le]
          have : ¬ lg_cmp z.toInt64 0 < 0 := fun q => e1 ((lg_cmp_lt z.toInt64 0).mp q)
          rw [i_lt] at this
          omega
        by_cases hy : 0 ≤ y.toInt ∧ y.toInt ≤ m ∧ y.toInt + z.toInt ≤ m
        · refine ⟨0, by omega, ?_, ?_, fun _ => ?_⟩
          · simp [f_X8_faultOfCells, s_faultOfRow2 hk ht (nI t) g (by rw [e2]; exact q1), pu_b1, hz1, s_areCells hk hm y z g (by rw [e3]; exact q3), hy]
            rfl
          · have e5 : 0 ≤ y.toInt ∧ 0 ≤ z.toInt ∧ y.toInt + z.toInt ≤ m := by omega
            simp [f_X12_barred, pu_gn hk, hc, r67, r68, nI_pos (show m < 2 ^ 31 by omega), nI_nn (show m < 2 ^ 31 by omega), e2', m_isBeyond hm, e5, pu_b1]
          · obtain ⟨j, hj, rfl⟩ := x_of hy.1
            obtain ⟨c, hc2, rfl⟩ := x_of hz
            rw [nI_toInt hj, nI_toInt hc2] at hy
            exact ⟨m, j, c, hm, q3, rfl, rfl, by omega⟩
        · refine ⟨3, by omega, ?_, ?_, fun q => by omega⟩
          · simp [f_X8_faultOfCells, s_faultOfRow2 hk ht (nI t) g (by rw [e2]; exact q1), pu_b1, hz1, s_areCells hk hm y z g (by rw [e3]; exact q3), hy]
            rfl
          · have e5 : ¬ (0 ≤ y.toInt ∧ 0 ≤ z.toInt ∧ y.toInt + z.toInt ≤ m) := by omega
            simp [f_X12_barred, pu_gn hk, hc, r67, r68, nI_pos (show m < 2 ^ 31 by omega), nI_nn (show m < 2 ^ 31 by omega), e2', m_isBeyond hm, e5, pu_b1, m_failed, pu_b2]
            exact ⟨by decide, rfl⟩
      · have hz1 : ¬ (0 : Int32) ≤ z := nI_nge0 (by omega)
        have e1 : z.toInt64 < 0 := by
          rw [l_lt, i_l]
          have : (0 : Int64).toInt = 0 := rfl
          omega
        have e2' : ¬ (0 : Int32) ≤ lg_cmp z.toInt64 0 := by
          rw [i_le]
          have := (lg_cmp_lt z.toInt64 0).mpr e1
          rw [i_lt] at this
          omega
        refine ⟨4, by omega, ?_, ?_, fun q => by omega⟩
        · simp [f_X8_faultOfCells, s_faultOfRow2 hk ht (nI t) g (by rw [e2]; exact q1), pu_b1, hz1]
          rfl
        · simp [f_X12_barred, pu_gn hk, hc, r67, r68, nI_pos (show m < 2 ^ 31 by omega), nI_nn (show m < 2 ^ 31 by omega), e2', pu_b1, m_failed, pu_b2]
          exact ⟨by decide, rfl⟩
    · refine ⟨2, by omega, ?_, ?_, fun q => by omega⟩
      · simp [f_X8_faultOfCells, s_faultOfRow2 hk ht l g (by rw [e2]; exact q1), pu_b1, hl]
        rfl
      · simp [f_X12_barred, pu_gn hk, hc, r67, r68, nI_pos (show m < 2 ^ 31 by omega), hl, pu_b1, m_failed, pu_b2]
        exact ⟨by decide, rfl⟩
/-- a piece of a row copied -/
def cf (f g : Nat → Int32) (sp dp n : Nat) : Nat → Int32 := fun k => if dp ≤ k ∧ k < dp + n then f (sp + (k - dp)) else g k
theorem cf_0 (f g : Nat → Int32) (sp dp : Nat) : cf f g sp dp 0 = g := by
  funext j
  unfold cf
  rw [if_neg (by omega)]
theorem cf_s (f g : Nat → Int32) (sp dp i : Nat) : upd (cf f g sp dp i) (dp + i) (f (sp + i)) = cf f g sp dp (i + 1) := by
  funext j
  rw [up_at]
  unfold cf
  by_cases h1 : j = dp + i
  · rw [if_pos h1, if_pos (by omega), h1, Nat.add_sub_cancel_left]
  · rw [if_neg h1]
    by_cases h2 : dp ≤ j ∧ j < dp + i
    · rw [if_pos h2, if_pos (by omega)]
    · rw [if_neg h2, if_neg (by omega)]
theorem l_copy1 {k j n : Nat} (hk : k < 4) (hn : j + n ≤ 100) (a b : Int32) (g : PH) : lp_f (fun s => lb_X12_copy_107 (nI k) (nI j) a b (nI n) s.1 s.2) fu_l (nI 0, g) = some (nI n, ph_r g 70 (cf (g.1 69) (g.1 70) (100 * k + j) 0 n)) := by
  have h0 : (nI 0, g) = (fun i => ((nI i), ph_r g 70 (cf (g.1 69) (g.1 70) (100 * k + j) 0 i))) 0 := by
    show _ = (nI 0, _)
    rw [cf_0, ph_rid]
  rw [h0]
  refine lp_cnt (fun i => ((nI i), ph_r g 70 (cf (g.1 69) (g.1 70) (100 * k + j) 0 i))) n _ (fun i hi => ?_) ?_ fu_l 0 (by omega) (by unfold fu_l; omega)
  · unfold lb_X12_copy_107
    have h1 : ¬ n ≤ i := by omega
    have h2 := cf_s (g.1 69) (g.1 70) (100 * k + j) 0 i
    rw [Nat.zero_add] at h2
    simp (disch := omega) only [pu_lt, pu_b1, pu_b2, pu_gn, n_0, n_1, n_2, n_3, n_4, n_5, n_6, n_7, n_8, n_9, n_10, n_14, n_20, n_31, n_48, n_59, n_70, n_98, n_99, n_100, n_104, n_200, n_1000, n_1M, n_10M, nI_add, nI_sub, nI_mul, nI_div, nI_clamp, nI_leI, nI_ltI, nI_eq, nI_ng, nI_nl, nI_nlt2, nI_nlt3, and_self, and_true, true_and, and_false, false_and, or_true, true_or, or_false, false_or, if_true, if_false, ↓reduceIte, not_true_eq_false, not_false_eq_true, reduceCtorEq, h1, ph_ri, pr_rr, Nat.reduceEqDiff, h2]
  · unfold lb_X12_copy_107
    simp (disch := omega) only [pu_lt, pu_b1, pu_b2, pu_gn, n_0, n_1, n_2, n_3, n_4, n_5, n_6, n_7, n_8, n_9, n_10, n_14, n_20, n_31, n_48, n_59, n_70, n_98, n_99, n_100, n_104, n_200, n_1000, n_1M, n_10M, nI_add, nI_sub, nI_mul, nI_div, nI_clamp, nI_leI, nI_ltI, nI_eq, nI_ng, nI_nl, nI_nlt2, nI_nlt3, and_self, and_true, true_and, and_false, false_and, or_true, true_or, or_false, false_or, if_true, if_false, ↓reduceIte, not_true_eq_false, not_false_eq_true, reduceCtorEq, Nat.le_refl]
theorem l_copy2 {k j n : Nat} (hk : k < 4) (hn : j + n ≤ 100) (g : PH) : lp_f (fun s => lb_X12_copy_144 (nI k) (nI j) (nI n) s.1 s.2) fu_l (nI 0, g) = some (nI n, ph_r g 69 (cf (g.1 70) (g.1 69) 0 (100 * k + j) n)) := by
  have h0 : (nI 0, g) = (fun i => ((nI i), ph_r g 69 (cf (g.1 70) (g.1 69) 0 (100 * k + j) i))) 0 := by
    show _ = (nI 0, _)
    rw [cf_0, ph_rid]
  rw [h0]
  refine lp_cnt (fun i => ((nI i), ph_r g 69 (cf (g.1 70) (g.1 69) 0 (100 * k + j) i))) n _ (fun i hi => ?_) ?_ fu_l 0 (by omega) (by unfold fu_l; omega)
  · unfold lb_X12_copy_144
    have h1 : ¬ n ≤ i := by omega
    have h2 := cf_s (g.1 70) (g.1 69) 0 (100 * k + j) i
    rw [Nat.zero_add] at h2
    simp (disch := omega) only [pu_lt, pu_b1, pu_b2, pu_gn, n_0, n_1, n_2, n_3, n_4, n_5, n_6, n_7, n_8, n_9, n_10, n_14, n_20, n_31, n_48, n_59, n_70, n_98, n_99, n_100, n_104, n_200, n_1000, n_1M, n_10M, nI_add, nI_sub, nI_mul, nI_div, nI_clamp, nI_leI, nI_ltI, nI_eq, nI_ng, nI_nl, nI_nlt2, nI_nlt3, and_self, and_true, true_and, and_false, false_and, or_true, true_or, or_false, false_or, if_true, if_false, ↓reduceIte, not_true_eq_false, not_false_eq_true, reduceCtorEq, h1, ph_ri, pr_rr, Nat.reduceEqDiff, h2]
  · unfold lb_X12_copy_144
    simp (disch := omega) only [pu_lt, pu_b1, pu_b2, pu_gn, n_0, n_1, n_2, n_3, n_4, n_5, n_6, n_7, n_8, n_9, n_10, n_14, n_20, n_31, n_48, n_59, n_70, n_98, n_99, n_100, n_104, n_200, n_1000, n_1M, n_10M, nI_add, nI_sub, nI_mul, nI_div, nI_clamp, nI_leI, nI_ltI, nI_eq, nI_ng, nI_nl, nI_nlt2, nI_nlt3, and_self, and_true, true_and, and_false, false_and, or_true, true_or, or_false, false_or, if_true, if_false, ↓reduceIte, not_true_eq_false, not_false_eq_true, reduceCtorEq, Nat.le_refl]
theorem cf_2 (f g : Nat → Int32) (a b n : Nat) (g2 : Nat → Int32) : cf (cf f g2 a 0 n) g 0 b n = cf f g a b n := by
  funext j
  unfold cf
  by_cases h1 : b ≤ j ∧ j < b + n
  · rw [if_pos h1, if_pos h1, if_pos (by omega)]
    congr 1
    omega
  · rw [if_neg h1, if_neg h1]
theorem o_copy {n : Nat} {h : PH} (hi : Inv n h) (x y z u v : Int32) : ∃ r h1 h2, f_X11_copy x y z u v h = some (r, h1) ∧ f_X12_copy x y z u v h1 = some (r, h2) ∧ Inv (n + 1) h2 := by
  by_cases hs : 0 ≤ x.toInt ∧ x.toInt < 4
  · by_cases hs2 : 0 ≤ z.toInt ∧ z.toInt < 4
    · obtain ⟨k, hk, rfl⟩ := sh_in hs
      obtain ⟨k2, hk2, rfl⟩ := sh_in hs2
      have hc : (nI k).toNatClampNeg = k := nI_clamp (by omega)
      have hc2 : (nI k2).toNatClampNeg = k2 := nI_clamp (by omega)
      have R : ∀ a : Nat, a ≠ 0 → ∀ v w, (ph_i (ph_i h 0 11 v) 0 11 w).1 a = h.1 a := fun a ha v w => by rw [r11 _ _ _ ha, r11 _ _ _ ha]
      rcases hi.1.2 k hk with ⟨q1, q2⟩ | ⟨m, t, hm, ht, q1, q2, q3, q4⟩
      · refine ⟨-10 - 1, ph_i (ph_i h 0 11 0) 0 11 1, ph_i (ph_i (ph_i h 0 11 0) 0 11 1) 43 0 1, ?_, ?_, by rw [ph_ii]; exact inv_flt hi 1⟩
        · simp [f_X11_copy, s_isSheet, hs, hs2, pu_b1, pu_lt, s_hasNothing1 hk (ph_i h 0 11 0) (by rw [r11 _ _ _ (by decide)]; exact q1), s_faulty, pu_b2]
        · simp [f_X12_copy, m_noSheet, hs, hs2, pu_b1, pu_gn hk, hc, R 67 (by decide), q2, neg1_lt, m_failed, pu_b2]
      · rcases hi.1.2 k2 hk2 with ⟨p1, p2⟩ | ⟨m2, t2, hm2, ht2, p1, p2, p3, p4⟩
        · refine ⟨-10 - 1, ph_i (ph_i h 0 11 0) 0 11 1, ph_i (ph_i (ph_i h 0 11 0) 0 11 1) 43 0 1, ?_, ?_, by rw [ph_ii]; exact inv_flt hi 1⟩
          · simp [f_X11_copy, s_isSheet, hs, hs2, pu_b1, pu_lt, s_hasNothing2 hk ht (ph_i h 0 11 0) (by rw [r11 _ _ _ (by decide)]; exact q1), s_hasNothing1 hk2 (ph_i h 0 11 0) (by rw [r11 _ _ _ (by decide)]; exact p1), s_faulty, pu_b2]
          · simp [f_X12_copy, m_noSheet, hs, hs2, pu_b1, pu_gn hk, pu_gn hk2, hc, hc2, R 67 (by decide), q4, p2, neg1_lt, neg1_nle, nI_pos (show m < 2 ^ 31 by omega), m_failed, pu_b2]
        · have c1 := s_hasNothing2 hk ht (ph_i h 0 11 0) (by rw [r11 _ _ _ (by decide)]; exact q1)
          have c2 := s_hasNothing2 hk2 ht2 (ph_i h 0 11 0) (by rw [r11 _ _ _ (by decide)]; exact p1)
          have d1 := nI_pos (show m < 2 ^ 31 by omega)
          have d2 := nI_nn (show m2 < 2 ^ 31 by omega)
          by_cases htt : t = t2
          · subst htt
            have c3 := s_areCells hk hm y v (ph_i h 0 11 0) (by rw [r11 _ _ _ (by decide)]; exact q3)
            have c4 := s_areCells hk2 hm2 u v (ph_i h 0 11 0) (by rw [r11 _ _ _ (by decide)]; exact p3)
            by_cases hv : 0 ≤ v.toInt
            · have hv1 := nI_nlt0 hv
              by_cases hy : 0 ≤ y.toInt ∧ y.toInt ≤ m ∧ y.toInt + v.toInt ≤ m
              · have hy2 : 0 ≤ y.toInt ∧ 0 ≤ v.toInt ∧ y.toInt + v.toInt ≤ m := by omega
                by_cases hu : 0 ≤ u.toInt ∧ u.toInt ≤ m2 ∧ u.toInt + v.toInt ≤ m2
                · have hu2 : 0 ≤ u.toInt ∧ 0 ≤ v.toInt ∧ u.toInt + v.toInt ≤ m2 := by omega
                  obtain ⟨c, hcc, rfl⟩ := x_of hv
                  obtain ⟨j, hj, rfl⟩ := x_of hy.1
                  obtain ⟨i, hii, rfl⟩ := x_of hu.1
                  have hjm : j + c ≤ 100 := by
                    have := hy2.2.2
                    rw [nI_toInt hj, nI_toInt hcc] at this
                    omega
                  have him : i + c ≤ 100 := by
                    have := hu2.2.2
                    rw [nI_toInt hii, nI_toInt hcc] at this
                    omega
                  refine ⟨nI c, ph_r (ph_i h 0 11 0) 4 (cf (h.1 4) (h.1 4) (k * 100 + j) (k2 * 100 + i) c), ph_i (ph_r (ph_r (ph_r (ph_i h 0 11 0) 4 (cf (h.1 4) (h.1 4) (k * 100 + j) (k2 * 100 + i) c)) 70 (cf (h.1 69) (h.1 70) (100 * k + j) 0 c)) 69 (cf (h.1 69) (h.1 69) (100 * k + j) (100 * k2 + i) c)) 43 0 0, ?_, ?_, ?_⟩
                  · simp only [f_X11_copy, s_isSheet, hs, hs2, pu_b1, pu_lt, c1, c2, pu_gn hk, pu_gn hk2, hc, hc2, r11 h 2 0 (by decide), r11 h 4 0 (by decide), q1, p1, hv1, c3, hy, c4, hu, f_X8_spot]
                    have g1 : gc_y (β := Int32 × PH) (nI k * 100 + nI j) (nI k2 * 100 + nI i) (nI c) 400 400 = id := by
                      funext K
                      unfold gc_y
                      simp (disch := omega) only [pu_lt, pu_b1, pu_b2, pu_gn, n_0, n_1, n_2, n_3, n_4, n_5, n_6, n_7, n_8, n_9, n_10, n_14, n_20, n_31, n_48, n_59, n_70, n_98, n_99, n_100, n_104, n_200, n_1000, n_1M, n_10M, nI_add, nI_sub, nI_mul, nI_div, nI_clamp, nI_leI, nI_ltI, nI_eq, nI_ng, nI_nl, nI_nlt2, nI_nlt3, and_self, and_true, true_and, and_false, false_and, or_true, true_or, or_false, false_or, if_true, if_false, ↓reduceIte, not_true_eq_false, not_false_eq_true, reduceCtorEq]
                      rw [if_pos (by omega)]
                      rfl
                    rw [g1]
                    simp (disch := omega) only [pu_lt, pu_b1, pu_b2, pu_gn, n_0, n_1, n_2, n_3, n_4, n_5, n_6, n_7, n_8, n_9, n_10, n_14, n_20, n_31, n_48, n_59, n_70, n_98, n_99, n_100, n_104, n_200, n_1000, n_1M, n_10M, nI_add, nI_sub, nI_mul, nI_div, nI_clamp, nI_leI, nI_ltI, nI_eq, nI_ng, nI_nl, nI_nlt2, nI_nlt3, and_self, and_true, true_and, and_false, false_and, or_true, true_or, or_false, false_or, if_true, if_false, ↓reduceIte, not_true_eq_false, not_false_eq_true, reduceCtorEq, Nat.succ_ne_zero, r11 h 4 _ (by decide), id]
                    rfl
                  · simp only [f_X12_copy, m_noSheet, hs, hs2, pu_b1, pu_gn hk, pu_gn hk2, hc, hc2, pr_rr, r11 h 67 0 (by decide), r11 h 68 0 (by decide), q4, p4, d1, d2, q2, p2, m_isBeyond hm, m_isBeyond hm2, hy2, hu2]
                    simp (disch := omega) only [pu_lt, pu_b1, pu_b2, pu_gn, n_0, n_1, n_2, n_3, n_4, n_5, n_6, n_7, n_8, n_9, n_10, n_14, n_20, n_31, n_48, n_59, n_70, n_98, n_99, n_100, n_104, n_200, n_1000, n_1M, n_10M, nI_add, nI_sub, nI_mul, nI_div, nI_clamp, nI_leI, nI_ltI, nI_eq, nI_ng, nI_nl, nI_nlt2, nI_nlt3, and_self, and_true, true_and, and_false, false_and, or_true, true_or, or_false, false_or, if_true, if_false, ↓reduceIte, not_true_eq_false, not_false_eq_true, reduceCtorEq, Nat.succ_ne_zero, l_copy1 hk hjm, l_copy2 hk2 him, Nat.not_lt_zero, pr_rr, Nat.reduceEqDiff, cf_2, r11 h 69 _ (by decide), r11 h 70 _ (by decide), m_refused, Nat.zero_le, q4, p4, q2, p2, r11 h 67 _ (by decide), r11 h 68 _ (by decide), m_isBeyond hm, m_isBeyond hm2, hy2, hu2]
                  · refine inv_sheet hi (fun a ha h2 h3 h4 h5 h6 h7 => ?_) ?_ (fun j hj => ?_) ?_ ?_ rfl
                    · have h0 : a ≠ 0 := fun q => by subst q; cases ha
                      have h43 : a ≠ 43 := fun q => by subst q; cases ha
                      have h70 : a ≠ 70 := fun q => by subst q; cases ha
                      simp [pr_row, pr_rr, h0, h2, h3, h4, h5, h6, h7, h43, h70]
                    · refine ⟨?_, fun j hj => ?_⟩
                      · simp [pr_row, pr_rr, hi.1.1, Nat.mul_comm]
                      · have := hi.1.2 j hj
                        simp [pr_row, pr_rr, up_at]
                        simpa using this
                    · have hj0 : j ≠ 0 := by omega
                      simp [pr_row, pr_rr, up_at, hj0]
                    · simp [pr_row, pr_rr, up_at]
                    · simp [pr_row, pr_rr, up_at]
                · have hu2 : ¬ (0 ≤ u.toInt ∧ 0 ≤ v.toInt ∧ u.toInt + v.toInt ≤ m2) := by omega
                  refine ⟨-10 - 3, ph_i (ph_i h 0 11 0) 0 11 3, ph_i (ph_i (ph_i h 0 11 0) 0 11 3) 43 0 3, ?_, ?_, by rw [ph_ii]; exact inv_flt hi 3⟩
                  · simp [f_X11_copy, s_isSheet, hs, hs2, pu_b1, pu_lt, c1, c2, s_faulty, pu_b2, pu_gn hk, pu_gn hk2, hc, hc2, r11 h 2 _ (by decide), q1, p1, hv1, c3, hy, c4, hu]
                  · have b2 : ∀ g, f_X12_isBeyond u v.toInt64 (nI m2) g = some 1 := fun g => by rw [m_isBeyond hm2, if_neg hu2]
                    simp [f_X12_copy, m_noSheet, hs, hs2, pu_b1, pu_gn hk, pu_gn hk2, hc, hc2, R 67 (by decide), R 68 (by decide), q4, p4, d1, d2, q2, p2, m_isBeyond hm, b2, hy2, m_failed, pu_b2]
              · have hy2 : ¬ (0 ≤ y.toInt ∧ 0 ≤ v.toInt ∧ y.toInt + v.toInt ≤ m) := by omega
                refine ⟨-10 - 3, ph_i (ph_i h 0 11 0) 0 11 3, ph_i (ph_i (ph_i h 0 11 0) 0 11 3) 43 0 3, ?_, ?_, by rw [ph_ii]; exact inv_flt hi 3⟩
                · simp [f_X11_copy, s_isSheet, hs, hs2, pu_b1, pu_lt, c1, c2, s_faulty, pu_b2, pu_gn hk, pu_gn hk2, hc, hc2, r11 h 2 _ (by decide), q1, p1, hv1, c3, hy]
                · simp [f_X12_copy, m_noSheet, hs, hs2, pu_b1, pu_gn hk, pu_gn hk2, hc, hc2, R 67 (by decide), R 68 (by decide), q4, p4, d1, d2, q2, p2, m_isBeyond hm, hy2, m_failed, pu_b2]
            · have hv1 := nI_lt0 (show v.toInt < 0 by omega)
              have hy2 : ¬ (0 ≤ y.toInt ∧ 0 ≤ v.toInt ∧ y.toInt + v.toInt ≤ m) := by omega
              refine ⟨-10 - 3, ph_i (ph_i h 0 11 0) 0 11 3, ph_i (ph_i (ph_i h 0 11 0) 0 11 3) 43 0 3, ?_, ?_, by rw [ph_ii]; exact inv_flt hi 3⟩
              · simp [f_X11_copy, s_isSheet, hs, hs2, pu_b1, pu_lt, c1, c2, s_faulty, pu_b2, pu_gn hk, pu_gn hk2, hc, hc2, r11 h 2 _ (by decide), q1, p1, hv1]
              · simp [f_X12_copy, m_noSheet, hs, hs2, pu_b1, pu_gn hk, pu_gn hk2, hc, hc2, R 67 (by decide), R 68 (by decide), q4, p4, d1, d2, q2, p2, m_isBeyond hm, hy2, m_failed, pu_b2]
          · have htt2 : ¬ nI t = nI t2 := fun q => htt ((nI_eq (by omega) (by omega)).mp q)
            refine ⟨-10 - 2, ph_i (ph_i h 0 11 0) 0 11 2, ph_i (ph_i (ph_i h 0 11 0) 0 11 2) 43 0 2, ?_, ?_, by rw [ph_ii]; exact inv_flt hi 2⟩
            · simp [f_X11_copy, s_isSheet, hs, hs2, pu_b1, pu_lt, c1, c2, s_faulty, pu_b2, pu_gn hk, pu_gn hk2, hc, hc2, r11 h 2 _ (by decide), q1, p1, htt2]
            · simp [f_X12_copy, m_noSheet, hs, hs2, pu_b1, pu_gn hk, pu_gn hk2, hc, hc2, R 67 (by decide), R 68 (by decide), q4, p4, d1, d2, q2, p2, htt2, m_failed, pu_b2]
    · refine ⟨-1, ph_i h 0 11 0, ph_i (ph_i h 0 11 0) 43 0 0, ?_, ?_, inv_flt hi 0⟩
      · simp [f_X11_copy, s_isSheet, hs, hs2, pu_lt, pu_b1]
      · simp [f_X12_copy, m_noSheet, hs, hs2, pu_b1, m_refused, pu_b2]
  · refine ⟨-1, ph_i h 0 11 0, ph_i (ph_i h 0 11 0) 43 0 0, ?_, ?_, inv_flt hi 0⟩
    · simp [f_X11_copy, s_isSheet, hs, pu_lt, pu_b1]
    · simp [f_X12_copy, m_noSheet, hs, pu_b1, m_refused, pu_b2]
