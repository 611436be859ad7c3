theorem o_point {n : Nat} {h : PH} (hi : Inv n h) (x y z : Int32) : ∃ r h1 h2, f_X11_point x y z h = some (r, h1) ∧ f_X12_point x y z h1 = some (r, h2) ∧ Inv (n + 1) h2 := by
  have hI := hi
  obtain ⟨hS, hF, hH, hX, hP, hW, hR, hC⟩ := hi
  have z0 : (0 : Int64).toInt = 0 := rfl
  have z5 : (5 : Int64).toInt = 5 := rfl
  have y6 : (6 : Int32).toInt = 6 := rfl
  rcases rg_pl hH x with ⟨c, hcP, hc8, rfl, w1, w2⟩ | ⟨w1, w2⟩
  · rcases rg_ld y with ⟨v, hv1, hv2, rfl, u1, u2⟩ | ⟨u1, u2⟩
    · by_cases hz : 0 ≤ z.toInt ∧ z.toInt < 6
      · obtain ⟨r, hr, rfl⟩ := ix_of hz.1 (n := 6) (by omega) (by decide)
        have t2 : ∀ g : PH, f_X12_in (nI r).toInt64 0 5 g = some 1 := fun g => by rw [f_ini, nI_toInt (by omega), if_pos (by omega)]
        have t3 : ¬ nI r < 0 := nI_pos (by omega)
        have t4 : nI r < 6 := nI_lt hr (by decide)
        obtain ⟨⟨m1, m2, m3⟩, m4⟩ := hP
        have hcN : (nI (hv_N h)).toNatClampNeg = hv_N h := nI_clamp (by omega)
        by_cases hm : hv_N h < 8
        · have hm3 : nI (hv_N h) < 8 := nI_lt hm (by decide)
          have hm4 : ¬ nI (hv_N h) = 8 := fun q => by have := (nI_eq (show hv_N h < 2 ^ 31 by omega) (show 8 < 2 ^ 31 by decide)).mp q; omega
          obtain ⟨h1, e1⟩ : ∃ h1, h1 = ph_i (ph_i (ph_i (ph_i (ph_i h 18 (hv_N h) (nI c)) 19 (hv_N h) (nI v)) 20 (hv_N h) (nI r)) 21 (hv_N h) (-9)) 17 0 (nI (hv_N h + 1)) := ⟨_, rfl⟩
          obtain ⟨h2, e2⟩ : ∃ h2, h2 = ph_i (ph_i (ph_i (ph_i h1 54 (hv_N h) (nI c)) 55 (hv_N h) (nI v)) 56 (hv_N h) (nI r)) 43 19 (nI (hv_N h + 1)) := ⟨_, rfl⟩
          have hb : ∀ a, 71 ≤ a → h2.1 a = h.1 a := by
            rw [e2, e1]
            exact big_i (by decide) (big_i (by decide) (big_i (by decide) (big_i (by decide) (big_i (by decide) (big_i (by decide) (big_i (by decide) (big_i (by decide) (big_i (by decide) (fun _ _ => rfl)))))))))
          have g17 : h2.1 17 0 = nI (hv_N h + 1) := by subst e2; subst e1; simp [pr_row, up_at]
          have g43 : h2.1 43 19 = nI (hv_N h + 1) := by subst e2; subst e1; simp [pr_row, up_at]
          have g18 : ∀ j, h2.1 18 j = if j = hv_N h then nI c else h.1 18 j := fun j => by subst e2; subst e1; simp [pr_row, up_at]
          have g19 : ∀ j, h2.1 19 j = if j = hv_N h then nI v else h.1 19 j := fun j => by subst e2; subst e1; simp [pr_row, up_at]
          have g20 : ∀ j, h2.1 20 j = if j = hv_N h then nI r else h.1 20 j := fun j => by subst e2; subst e1; simp [pr_row, up_at]
          have g21 : ∀ j, h2.1 21 j = if j = hv_N h then -9 else h.1 21 j := fun j => by subst e2; subst e1; simp [pr_row, up_at]
          have g54 : ∀ j, h2.1 54 j = if j = hv_N h then nI c else h.1 54 j := fun j => by subst e2; subst e1; simp [pr_row, up_at]
          have g55 : ∀ j, h2.1 55 j = if j = hv_N h then nI v else h.1 55 j := fun j => by subst e2; subst e1; simp [pr_row, up_at]
          have g56 : ∀ j, h2.1 56 j = if j = hv_N h then nI r else h.1 56 j := fun j => by subst e2; subst e1; simp [pr_row, up_at]
          have gN : hv_N h2 = hv_N h + 1 := by unfold hv_N; rw [g17]; exact nI_clamp (by omega)
          have E : ∀ a, a ≠ 17 → a ≠ 18 → a ≠ 19 → a ≠ 20 → a ≠ 21 → a ≠ 43 → a ≠ 54 → a ≠ 55 → a ≠ 56 → h2.1 a = h.1 a := by
            intro a q1 q2 q3 q4 q5 q6 q7 q8 q9
            subst e2; subst e1
            simp [pr_row, q1, q2, q3, q4, q5, q6, q7, q8, q9]
          have E43 : ∀ j, j ≠ 19 → h2.1 43 j = h.1 43 j := by
            intro j hj
            subst e2; subst e1
            simp [pr_row, up_at, hj]
          have gP : hv_P h2 = hv_P h := by unfold hv_P; rw [E 10] <;> decide
          have e222 : h2.2.2 = h.2.2 := by subst e2; subst e1; rfl
          refine ⟨nI (hv_N h), h1, h2, ?_, ?_, ?_⟩
          · have a1 : ∀ g : PH, g.1 17 = h.1 17 → g.1 17 0 = nI (hv_N h) := fun g e => by rw [e]; exact m1
            simp only [f_X11_point, w1 h rfl, u1, pu_b1, t3, t4, m1, hm3, f_X6_add, pu_lt, pu_gn hm, hcN, pu_b2]
            rw [a1 (ph_i (ph_i (ph_i (ph_i h 18 (hv_N h) (nI c)) 19 (hv_N h) (nI v)) 20 (hv_N h) (nI r)) 21 (hv_N h) (-9)) (by simp [pr_row])]
            subst e1
            simp (disch := omega) only [pu_lt, pu_b1, pu_b2, pu_gn, n_0, n_1, n_2, n_3, n_4, n_5, n_6, n_7, n_8, n_9, n_10, n_14, n_20, n_31, n_48, n_59, n_70, n_98, n_99, n_100, n_104, n_200, n_1000, n_1M, n_10M, nI_add, nI_sub, nI_mul, nI_div, nI_clamp, nI_leI, nI_ltI, nI_eq, nI_ng, nI_nl, nI_nlt2, nI_nlt3, and_self, and_true, true_and, and_false, false_and, or_true, true_or, or_false, false_or, if_true, if_false, ↓reduceIte, not_true_eq_false, not_false_eq_true, reduceCtorEq, Nat.succ_ne_zero]
          · have hg : ∀ g : PH, g.1 43 = h.1 43 → g.1 43 19 = nI (hv_N h) := fun g e => by rw [e, m3]; exact m1
            have b0 : h1.1 43 = h.1 43 := by subst e1; simp [pr_row]
            have b1 := hg h1 b0
            have b2 := hg (ph_i h1 54 (hv_N h) (nI c)) (by rw [pr_row, if_neg (by decide)]; exact b0)
            have b3 := hg (ph_i (ph_i h1 54 (hv_N h) (nI c)) 55 (hv_N h) (nI v)) (by rw [pr_row, if_neg (by decide), pr_row, if_neg (by decide)]; exact b0)
            have b4 := hg (ph_i (ph_i (ph_i h1 54 (hv_N h) (nI c)) 55 (hv_N h) (nI v)) 56 (hv_N h) (nI r)) (by rw [pr_row, if_neg (by decide), pr_row, if_neg (by decide), pr_row, if_neg (by decide)]; exact b0)
            simp only [f_X12_point, w2 h1 (by rw [b0]), u2, t2, pu_b1, pu_lt, b1, b2, b3, b4, hcN, hm4, pu_gn hm]
            rw [← nI_succ, ← e2, g43]
            simp (disch := omega) only [pu_lt, pu_b1, pu_b2, pu_gn, n_0, n_1, n_2, n_3, n_4, n_5, n_6, n_7, n_8, n_9, n_10, n_14, n_20, n_31, n_48, n_59, n_70, n_98, n_99, n_100, n_104, n_200, n_1000, n_1M, n_10M, nI_add, nI_sub, nI_mul, nI_div, nI_clamp, nI_leI, nI_ltI, nI_eq, nI_ng, nI_nl, nI_nlt2, nI_nlt3, and_self, and_true, true_and, and_false, false_and, or_true, true_or, or_false, false_or, if_true, if_false, ↓reduceIte, not_true_eq_false, not_false_eq_true, reduceCtorEq, hm4, Nat.succ_ne_zero, Nat.add_sub_cancel]
          · refine ⟨?_, ⟨?_, ?_⟩, ?_, ?_, ?_, ?_, ?_, ?_⟩
            · apply fr_S hS <;> (apply E <;> decide)
            · rw [E 0 (by decide) (by decide) (by decide) (by decide) (by decide) (by decide) (by decide) (by decide) (by decide), E43 0 (by decide)]; exact hF.1
            · rw [E 42 (by decide) (by decide) (by decide) (by decide) (by decide) (by decide) (by decide) (by decide) (by decide), E43 44 (by decide)]; exact hF.2
            · apply fr_H hH <;> first | (apply E <;> decide) | (apply E43; decide)
            · apply fr_X hX <;> first | (apply E <;> decide) | (apply congrFun; apply E <;> decide)
            · refine ⟨⟨by rw [g17, gN], by omega, by rw [g43, g17]⟩, fun p hp => ?_⟩
              unfold hv_p hv_l hv_r
              rw [g18, g19, g20, g54, g55, g56, gP]
              by_cases hpn : p = hv_N h
              · simp only [hpn, if_true]
                rw [nI_clamp (show c < 2 ^ 31 by omega), nI_clamp (show v < 2 ^ 31 by omega), nI_clamp (show r < 2 ^ 31 by omega)]
                exact ⟨⟨rfl, hcP, trivial⟩, ⟨rfl, hv1, hv2, trivial⟩, rfl, by omega, trivial⟩
              · simp only [hpn, if_false]
                exact m4 p (by omega)
            · obtain ⟨a1, a2, a3, a4⟩ := hW
              have e05 : h2.1 0 = h.1 0 := by apply E <;> decide
              have gW : hv_W h2 = hv_W h := by unfold hv_W; rw [e05]
              have ew : ∀ k o ci a m, iv_w h k o ci a m → iv_w h2 k o ci a m := by
                intro k o ci a m hw
                obtain ⟨q1, q2, q3, q4, q5, q6, q7, q8, q9, q10, q11, q12, q13, q14, q15⟩ := hw
                unfold iv_w
                rw [e222, show ch_at h2 o = ch_at h o from by unfold ch_at; rw [e222], hb o q4, hb a q5, gN]
                rw [E 57 (by decide) (by decide) (by decide) (by decide) (by decide) (by decide) (by decide) (by decide) (by decide), E 58 (by decide) (by decide) (by decide) (by decide) (by decide) (by decide) (by decide) (by decide) (by decide), E 59 (by decide) (by decide) (by decide) (by decide) (by decide) (by decide) (by decide) (by decide) (by decide), E 60 (by decide) (by decide) (by decide) (by decide) (by decide) (by decide) (by decide) (by decide) (by decide), E 61 (by decide) (by decide) (by decide) (by decide) (by decide) (by decide) (by decide) (by decide) (by decide)]
                refine ⟨q1, q2, q3, q4, q5, q6, q7, q8, q9, q10, q11, q12, q13, fun j hj => ?_, q15⟩
                obtain ⟨p, p1, p2, p3, p4⟩ := q14 j hj
                refine ⟨p, by omega, p2, p3, ?_⟩
                rw [g21, if_neg (by omega)]
                exact p4
              refine ⟨?_, ?_, fun k hk => ?_, fun p hp => ?_⟩
              · rw [gW, e05, E43 23 (by decide)]; exact a1
              · rw [gW, e222]; exact a2
              · rw [gW] at hk
                rw [e222, E 57 (by decide) (by decide) (by decide) (by decide) (by decide) (by decide) (by decide) (by decide) (by decide)]
                rcases a3 k hk with q | ⟨o, ci, a, m, q⟩
                · exact Or.inl q
                · exact Or.inr ⟨o, ci, a, m, ew k o ci a m q⟩
              · rw [gW, g21]
                by_cases hpn : p = hv_N h
                · left; rw [if_pos hpn]
                · rw [if_neg hpn]
                  rcases a4 p (by omega) with q | ⟨k, o, ci, a, m, j, q1, q2, q3, q4⟩
                  · exact Or.inl q
                  · refine Or.inr ⟨k, o, ci, a, m, j, q1, ew k o ci a m q2, q3, ?_⟩
                    rw [hb a q2.2.2.2.2.1]
                    exact q4
            · obtain ⟨⟨b1, b2, b3⟩, b4⟩ := hR
              have e37 : h2.1 37 = h.1 37 := by apply E <;> decide
              have gM : hv_M h2 = hv_M h := by unfold hv_M; rw [e37]
              refine ⟨⟨by rw [gM, e37]; exact b1, by omega, by rw [e37, E43 37 (by decide)]; exact b3⟩, fun j hj => ?_⟩
              rw [E 38 (by decide) (by decide) (by decide) (by decide) (by decide) (by decide) (by decide) (by decide) (by decide), E 39 (by decide) (by decide) (by decide) (by decide) (by decide) (by decide) (by decide) (by decide) (by decide), E 65 (by decide) (by decide) (by decide) (by decide) (by decide) (by decide) (by decide) (by decide) (by decide), E 66 (by decide) (by decide) (by decide) (by decide) (by decide) (by decide) (by decide) (by decide) (by decide), gN]
              obtain ⟨c1, c2, ⟨s, c3, c4⟩, c5⟩ := b4 j (by omega)
              refine ⟨c1, c2, ⟨s, ?_, c4⟩, c5⟩
              rw [Nat.pow_succ]
              omega
            · exact fr_C hC hb e222
        · have hm8 : hv_N h = 8 := by omega
          have e17 : h.1 17 0 = 8 := by rw [m1, hm8]; rfl
          refine ⟨-4, h, h, ?_, ?_, inv_up hI⟩
          · simp [f_X11_point, w1 h rfl, u1, pu_b1, t3, t4, e17]
          · simp [f_X12_point, w2 h rfl, u2, t2, pu_b1, m3, e17]
      · have t2 : ∀ g : PH, f_X12_in z.toInt64 0 5 g = some 0 := fun g => by rw [f_ini, if_neg (by omega)]
        refine ⟨-2, h, h, ?_, ?_, inv_up hI⟩
        · unfold f_X11_point
          rw [w1 h rfl, pu_b1, if_neg (by decide), u1, pu_b1, if_neg (by decide)]
          by_cases h0 : 0 ≤ z.toInt
          · rw [if_neg (nI_nlt0 h0), if_neg (by rw [i_lt]; omega)]
          · rw [if_pos (nI_lt0 (by omega))]
        · simp [f_X12_point, w2 h rfl, u2, t2, pu_b1]
    · refine ⟨-2, h, h, ?_, ?_, inv_up hI⟩
      · simp [f_X11_point, w1 h rfl, u1, pu_b1]
      · simp [f_X12_point, w2 h rfl, u2, pu_b1]
  · refine ⟨-1, h, h, ?_, ?_, inv_up hI⟩
    · simp [f_X11_point, w1 h rfl, pu_b1]
    · simp [f_X12_point, w2 h rfl, pu_b1]
