/-- how many of the first i are so -/
def cnt (f : Nat → Bool) : Nat → Nat
  | 0 => 0
  | i + 1 => cnt f i + if f i then 1 else 0
theorem cnt_le (f : Nat → Bool) : ∀ i, cnt f i ≤ i
  | 0 => Nat.le_refl _
  | i + 1 => by
    have := cnt_le f i
    show cnt f i + (if f i then 1 else 0) ≤ i + 1
    split <;> omega
theorem l_closed {h : PH} {R : Nat} (hR : h.1 10 2 = nI R) (hR2 : R ≤ 14) : f_X3_howManyClosed h = some (nI (cnt (fun k => !(h.1 15 k == 0)) R)) := by
  unfold f_X3_howManyClosed
  have e : lp_f (fun s => lb_X3_howManyClosed_4 h s.1 s.2) fu_l (0, 0) = some (nI (cnt (fun k => !(h.1 15 k == 0)) R), nI R) := by
    refine lp_cnt (fun i => (nI (cnt (fun k => !(h.1 15 k == 0)) i), nI i)) R _ (fun i hi => ?_) ?_ fu_l 0 (by omega) (by unfold fu_l; omega)
    · unfold lb_X3_howManyClosed_4
      have h1 : ¬ R ≤ i := by omega
      by_cases hc : h.1 15 i = 0
      · have hc2 : h.1 15 i = nI 0 := hc
        simp (disch := omega) only [pu_lt, pu_b1, pu_b2, pu_gn, n_0, n_1, n_2, n_3, n_4, n_5, n_6, n_7, n_8, n_9, n_10, n_14, n_20, n_31, n_48, n_59, n_70, n_98, n_99, n_100, n_104, n_200, n_1000, n_1M, n_10M, nI_add, nI_sub, nI_mul, nI_div, nI_clamp, nI_leI, nI_ltI, nI_eq, nI_ng, nI_nl, nI_nlt2, nI_nlt3, and_self, and_true, true_and, and_false, false_and, or_true, true_or, or_false, false_or, if_true, if_false, ↓reduceIte, not_true_eq_false, not_false_eq_true, reduceCtorEq, hR, h1, hc2, cnt, hc, beq_self_eq_true, Bool.not_true, Bool.false_eq_true]
      · have hc2 : ¬ h.1 15 i = nI 0 := hc
        have hc3 : (h.1 15 i == 0) = false := by simp [hc]
        have hc4 : (h.1 15 i == nI 0) = false := hc3
        simp (disch := omega) only [pu_lt, pu_b1, pu_b2, pu_gn, n_0, n_1, n_2, n_3, n_4, n_5, n_6, n_7, n_8, n_9, n_10, n_14, n_20, n_31, n_48, n_59, n_70, n_98, n_99, n_100, n_104, n_200, n_1000, n_1M, n_10M, nI_add, nI_sub, nI_mul, nI_div, nI_clamp, nI_leI, nI_ltI, nI_eq, nI_ng, nI_nl, nI_nlt2, nI_nlt3, and_self, and_true, true_and, and_false, false_and, or_true, true_or, or_false, false_or, if_true, if_false, ↓reduceIte, not_true_eq_false, not_false_eq_true, reduceCtorEq, hR, h1, hc2, cnt, hc3, hc4, Bool.not_false]
    · unfold lb_X3_howManyClosed_4
      simp (disch := omega) only [pu_lt, pu_b1, pu_b2, pu_gn, n_0, n_1, n_2, n_3, n_4, n_5, n_6, n_7, n_8, n_9, n_10, n_14, n_20, n_31, n_48, n_59, n_70, n_98, n_99, n_100, n_104, n_200, n_1000, n_1M, n_10M, nI_add, nI_sub, nI_mul, nI_div, nI_clamp, nI_leI, nI_ltI, nI_eq, nI_ng, nI_nl, nI_nlt2, nI_nlt3, and_self, and_true, true_and, and_false, false_and, or_true, true_or, or_false, false_or, if_true, if_false, ↓reduceIte, not_true_eq_false, not_false_eq_true, reduceCtorEq, hR, Nat.le_refl]
  rw [e, pu_b1]
theorem cnt_c {f g : Nat → Bool} : ∀ {i : Nat}, (∀ k, k < i → f k = g k) → cnt f i = cnt g i
  | 0, _ => rfl
  | i + 1, h => by
    show cnt f i + _ = cnt g i + _
    rw [cnt_c (fun k hk => h k (by omega)), h i (by omega)]
theorem cnt_x {f : Nat → Bool} {m : Nat} (h : ∀ k, m ≤ k → f k = false) : ∀ j, cnt f (m + j) = cnt f m
  | 0 => rfl
  | j + 1 => by
    show cnt f (m + j) + (if f (m + j) then 1 else 0) = cnt f m
    rw [h (m + j) (by omega), cnt_x h j]
    rfl
theorem l_mclosed {h : PH} {R : Nat} (x1 x3 : Int32) (hR : h.1 43 3 = nI R) (hR2 : R ≤ 14) : lp_f (fun s => lb_X12_many_7 x1 x3 h s.1 s.2) fu_l (0, 0) = some (nI (cnt (fun k => !(h.1 48 k == 0)) R), nI R) := by
  refine lp_cnt (fun i => (nI (cnt (fun k => !(h.1 48 k == 0)) i), nI i)) R _ (fun i hi => ?_) ?_ fu_l 0 (by omega) (by unfold fu_l; omega)
  · unfold lb_X12_many_7
    have h1 : ¬ R ≤ i := by omega
    by_cases hc : h.1 48 i = 0
    · have hc2 : h.1 48 i = nI 0 := hc
      simp (disch := omega) only [pu_lt, pu_b1, pu_b2, pu_gn, n_0, n_1, n_2, n_3, n_4, n_5, n_6, n_7, n_8, n_9, n_10, n_14, n_20, n_31, n_48, n_59, n_70, n_98, n_99, n_100, n_104, n_200, n_1000, n_1M, n_10M, nI_add, nI_sub, nI_mul, nI_div, nI_clamp, nI_leI, nI_ltI, nI_eq, nI_ng, nI_nl, nI_nlt2, nI_nlt3, and_self, and_true, true_and, and_false, false_and, or_true, true_or, or_false, false_or, if_true, if_false, ↓reduceIte, not_true_eq_false, not_false_eq_true, reduceCtorEq, hR, h1, hc2, cnt, hc, beq_self_eq_true, Bool.not_true, Bool.false_eq_true]
    · have hc2 : ¬ h.1 48 i = nI 0 := hc
      have hc3 : (h.1 48 i == 0) = false := by simp [hc]
      have hc4 : (h.1 48 i == nI 0) = false := hc3
      simp (disch := omega) only [pu_lt, pu_b1, pu_b2, pu_gn, n_0, n_1, n_2, n_3, n_4, n_5, n_6, n_7, n_8, n_9, n_10, n_14, n_20, n_31, n_48, n_59, n_70, n_98, n_99, n_100, n_104, n_200, n_1000, n_1M, n_10M, nI_add, nI_sub, nI_mul, nI_div, nI_clamp, nI_leI, nI_ltI, nI_eq, nI_ng, nI_nl, nI_nlt2, nI_nlt3, and_self, and_true, true_and, and_false, false_and, or_true, true_or, or_false, false_or, if_true, if_false, ↓reduceIte, not_true_eq_false, not_false_eq_true, reduceCtorEq, hR, h1, hc2, cnt, hc3, hc4, Bool.not_false]
  · unfold lb_X12_many_7
    simp (disch := omega) only [pu_lt, pu_b1, pu_b2, pu_gn, n_0, n_1, n_2, n_3, n_4, n_5, n_6, n_7, n_8, n_9, n_10, n_14, n_20, n_31, n_48, n_59, n_70, n_98, n_99, n_100, n_104, n_200, n_1000, n_1M, n_10M, nI_add, nI_sub, nI_mul, nI_div, nI_clamp, nI_leI, nI_ltI, nI_eq, nI_ng, nI_nl, nI_nlt2, nI_nlt3, and_self, and_true, true_and, and_false, false_and, or_true, true_or, or_false, false_or, if_true, if_false, ↓reduceIte, not_true_eq_false, not_false_eq_true, reduceCtorEq, hR, Nat.le_refl]
theorem l_mways {h : PH} {R : Nat} (x1 x3 : Int32) (hR : h.1 43 23 = nI R) (hR2 : R ≤ 6) : lp_f (fun s => lb_X12_many_43 x1 x3 h s.1 s.2) fu_l (0, 0) = some (nI (cnt (fun k => !(h.1 57 k == 0)) R), nI R) := by
  refine lp_cnt (fun i => (nI (cnt (fun k => !(h.1 57 k == 0)) i), nI i)) R _ (fun i hi => ?_) ?_ fu_l 0 (by omega) (by unfold fu_l; omega)
  · unfold lb_X12_many_43
    have h1 : ¬ R ≤ i := by omega
    by_cases hc : h.1 57 i = 0
    · have hc2 : h.1 57 i = nI 0 := hc
      simp (disch := omega) only [pu_lt, pu_b1, pu_b2, pu_gn, n_0, n_1, n_2, n_3, n_4, n_5, n_6, n_7, n_8, n_9, n_10, n_14, n_20, n_31, n_48, n_59, n_70, n_98, n_99, n_100, n_104, n_200, n_1000, n_1M, n_10M, nI_add, nI_sub, nI_mul, nI_div, nI_clamp, nI_leI, nI_ltI, nI_eq, nI_ng, nI_nl, nI_nlt2, nI_nlt3, and_self, and_true, true_and, and_false, false_and, or_true, true_or, or_false, false_or, if_true, if_false, ↓reduceIte, not_true_eq_false, not_false_eq_true, reduceCtorEq, hR, h1, hc2, cnt, hc, beq_self_eq_true, Bool.not_true, Bool.false_eq_true]
    · have hc2 : ¬ h.1 57 i = nI 0 := hc
      have hc3 : (h.1 57 i == 0) = false := by simp [hc]
      have hc4 : (h.1 57 i == nI 0) = false := hc3
      simp (disch := omega) only [pu_lt, pu_b1, pu_b2, pu_gn, n_0, n_1, n_2, n_3, n_4, n_5, n_6, n_7, n_8, n_9, n_10, n_14, n_20, n_31, n_48, n_59, n_70, n_98, n_99, n_100, n_104, n_200, n_1000, n_1M, n_10M, nI_add, nI_sub, nI_mul, nI_div, nI_clamp, nI_leI, nI_ltI, nI_eq, nI_ng, nI_nl, nI_nlt2, nI_nlt3, and_self, and_true, true_and, and_false, false_and, or_true, true_or, or_false, false_or, if_true, if_false, ↓reduceIte, not_true_eq_false, not_false_eq_true, reduceCtorEq, hR, h1, hc2, cnt, hc3, hc4, Bool.not_false]
  · unfold lb_X12_many_43
    simp (disch := omega) only [pu_lt, pu_b1, pu_b2, pu_gn, n_0, n_1, n_2, n_3, n_4, n_5, n_6, n_7, n_8, n_9, n_10, n_14, n_20, n_31, n_48, n_59, n_70, n_98, n_99, n_100, n_104, n_200, n_1000, n_1M, n_10M, nI_add, nI_sub, nI_mul, nI_div, nI_clamp, nI_leI, nI_ltI, nI_eq, nI_ng, nI_nl, nI_nlt2, nI_nlt3, and_self, and_true, true_and, and_false, false_and, or_true, true_or, or_false, false_or, if_true, if_false, ↓reduceIte, not_true_eq_false, not_false_eq_true, reduceCtorEq, hR, Nat.le_refl]
theorem l_ways {h : PH} : f_X11_howManyWays h = some (nI (cnt (fun k => (h.2.2.1 22 k).isSome) 6)) := by
  unfold f_X11_howManyWays
  have e : lp_f (fun s => lb_X11_howManyWays_4 h s.1 s.2) fu_l (0, 0) = some (nI (cnt (fun k => (h.2.2.1 22 k).isSome) 6), nI 6) := by
    refine lp_cnt (fun i => (nI (cnt (fun k => (h.2.2.1 22 k).isSome) i), nI i)) 6 _ (fun i hi => ?_) ?_ fu_l 0 (by omega) (by unfold fu_l; omega)
    · unfold lb_X11_howManyWays_4
      have h1 : ¬ 6 ≤ i := by omega
      cases hc : h.2.2.1 22 i with
      | none => simp (disch := omega) only [pu_lt, pu_b1, pu_b2, pu_gn, n_0, n_1, n_2, n_3, n_4, n_5, n_6, n_7, n_8, n_9, n_10, n_14, n_20, n_31, n_48, n_59, n_70, n_98, n_99, n_100, n_104, n_200, n_1000, n_1M, n_10M, nI_add, nI_sub, nI_mul, nI_div, nI_clamp, nI_leI, nI_ltI, nI_eq, nI_ng, nI_nl, nI_nlt2, nI_nlt3, and_self, and_true, true_and, and_false, false_and, or_true, true_or, or_false, false_or, if_true, if_false, ↓reduceIte, not_true_eq_false, not_false_eq_true, reduceCtorEq, h1, hc, cnt, mo_b, Option.isSome_none, Bool.false_eq_true]
      | some o => simp (disch := omega) only [pu_lt, pu_b1, pu_b2, pu_gn, n_0, n_1, n_2, n_3, n_4, n_5, n_6, n_7, n_8, n_9, n_10, n_14, n_20, n_31, n_48, n_59, n_70, n_98, n_99, n_100, n_104, n_200, n_1000, n_1M, n_10M, nI_add, nI_sub, nI_mul, nI_div, nI_clamp, nI_leI, nI_ltI, nI_eq, nI_ng, nI_nl, nI_nlt2, nI_nlt3, and_self, and_true, true_and, and_false, false_and, or_true, true_or, or_false, false_or, if_true, if_false, ↓reduceIte, not_true_eq_false, not_false_eq_true, reduceCtorEq, h1, hc, cnt, mo_b, Option.isSome_some]
    · unfold lb_X11_howManyWays_4
      simp (disch := omega) only [pu_lt, pu_b1, pu_b2, pu_gn, n_0, n_1, n_2, n_3, n_4, n_5, n_6, n_7, n_8, n_9, n_10, n_14, n_20, n_31, n_48, n_59, n_70, n_98, n_99, n_100, n_104, n_200, n_1000, n_1M, n_10M, nI_add, nI_sub, nI_mul, nI_div, nI_clamp, nI_leI, nI_ltI, nI_eq, nI_ng, nI_nl, nI_nlt2, nI_nlt3, and_self, and_true, true_and, and_false, false_and, or_true, true_or, or_false, false_or, if_true, if_false, ↓reduceIte, not_true_eq_false, not_false_eq_true, reduceCtorEq, Nat.le_refl]
  rw [e, pu_b1]
theorem o_many {n : Nat} {h : PH} (hi : Inv n h) (x : Int32) : ∃ r, f_X11_many x h = some r ∧ f_X12_many x h = some r := by
  obtain ⟨hS, hF, hH, hX, hP, hW, hR, hC⟩ := hi
  have r1 := hH.2.2.1.1
  have r2 := hH.2.2.1.2.1
  have c1 := l_closed r1 r2
  have c2 := l_mclosed (h := h) x 0 (by rw [hH.2.2.1.2.2]; exact r1) r2
  have c3 : ∀ y, lp_f (fun s => lb_X12_many_43 x y h s.1 s.2) fu_l (0, 0) = _ := fun y => l_mways (h := h) x y (by rw [hW.1.2.2]; exact hW.1.1) hW.1.2.1
  have e1 : cnt (fun k => !(h.1 48 k == 0)) (hv_R h) = cnt (fun k => !(h.1 15 k == 0)) (hv_R h) := cnt_c (fun k hk => by rw [(hH.2.2.2 k hk).2.2.2.2.2.2])
  have e2 : cnt (fun k => (h.2.2.1 22 k).isSome) 6 = cnt (fun k => !(h.1 57 k == 0)) (hv_W h) := by
    have h6 : 6 = hv_W h + (6 - hv_W h) := by have := hW.1.2.1; omega
    rw [h6, cnt_x (fun k hk => by rw [hW.2.1 k hk]; rfl)]
    refine cnt_c (fun k hk => ?_)
    rcases hW.2.2.1 k hk with ⟨q1, q2⟩ | ⟨o, ci, a, m, q⟩
    · rw [q1, q2]; rfl
    · rw [q.1, q.2.1]; rfl
  refine ⟨if x = 0 then h.1 10 0 else if x = 1 then h.1 10 2 else if x = 2 then nI (cnt (fun k => !(h.1 15 k == 0)) (hv_R h)) else if x = 3 then h.1 17 0 else if x = 4 then nI (cnt (fun k => !(h.1 57 k == 0)) (hv_W h)) else if x = 5 then h.1 37 0 else -2, ?_, ?_⟩
  · unfold f_X11_many
    rw [c1, l_ways, e2, pu_b1, pu_b1]
    by_cases x0 : x = 0
    · simp [x0]
    by_cases x1 : x = 1
    · simp [x1]
    by_cases x2 : x = 2
    · simp [x2]
    by_cases x3 : x = 3
    · simp [x3]
    by_cases x4 : x = 4
    · simp [x4]
    by_cases x5 : x = 5
    · simp [x5]
    simp [x0, x1, x2, x3, x4, x5]
  · unfold f_X12_many
    rw [c2, pu_b1, c3, pu_b1, e1, hH.1.2.2, hH.2.2.1.2.2, hP.1.2.2, hR.1.2.2]
    by_cases x0 : x = 0
    · simp [x0]
    by_cases x1 : x = 1
    · simp [x1]
    by_cases x2 : x = 2
    · simp [x2]
    by_cases x3 : x = 3
    · simp [x3]
    by_cases x4 : x = 4
    · simp [x4]
    by_cases x5 : x = 5
    · simp [x5]
    simp [x0, x1, x2, x3, x4, x5]
theorem o_as {n : Nat} {h : PH} (hi : Inv n h) (x y : Int32) : ∃ r h1 h2, f_X11_as x y h = some (r, h1) ∧ f_X12_as x y h1 = some (r, h2) ∧ Inv (n + 1) h2 := by
  have hW := hi.2.2.2.2.2.1
  have z0 : (0 : Int64).toInt = 0 := rfl
  have z2 : (2 : Int64).toInt = 2 := rfl
  have y3 : (3 : Int32).toInt = 3 := rfl
  rcases wy hW x with ⟨w1, w2⟩ | ⟨k, o, ci, a, m, rfl, hk, hk6, hw, w1, w2⟩
  · refine ⟨-1, ph_i h 0 11 0, ph_i (ph_i h 0 11 0) 43 0 0, ?_, ?_, inv_flt hi 0⟩
    · simp [f_X11_as, w1 (ph_i h 0 11 0) (by simp [pr_row, up_at]) rfl, pu_b1, pu_lt, mo_b]
    · simp [f_X12_as, w2 (ph_i h 0 11 0) (by simp [pr_row, up_at]) (by simp [pr_row]), pu_b1, m_refused, pu_b2]
  · have hc : (nI k).toNatClampNeg = k := nI_clamp (by omega)
    have hw' := hw
    obtain ⟨q1, q2, q3, q4, q5, q6, q7, q8, q9, q10, q11, q12, q13, q14, q15⟩ := hw'
    have q3' : ch_at (ph_i h 0 11 0) o = some (ci, a, m) := q3
    have e58 : ∀ v, (ph_i h 0 11 v).1 58 = h.1 58 := fun v => by simp [pr_row]
    by_cases hy : 0 ≤ y.toInt ∧ y.toInt < 3
    · obtain ⟨t, ht, rfl⟩ := ix_of hy.1 (n := 3) (by omega) (by decide)
      have t1 : ∀ g : PH, f_X12_in (nI t).toInt64 0 2 g = some 1 := fun g => by rw [f_ini, nI_toInt (by omega), if_pos (by omega)]
      have t2 : ∀ g : PH, f_X11_isKind (nI t) g = some 1 := fun g => by
        unfold f_X11_isKind
        rw [if_neg (nI_pos (by omega)), if_neg (show ¬ (3 : Int32) ≤ nI t from nI_ge ht (by decide))]
      have hcase : ∃ kd : Nat, kd < 3 ∧ h.1 58 k = nI kd ∧ ((ci = 1 ∧ kd = 0) ∨ (ci = 7 ∧ kd = 1) ∨ (ci = 9 ∧ kd = 2)) := by
        rcases q10 with ⟨q, r⟩ | ⟨q, r⟩ | ⟨q, r⟩
        · exact ⟨0, by omega, r, Or.inl ⟨q, rfl⟩⟩
        · exact ⟨1, by omega, r, Or.inr (Or.inl ⟨q, rfl⟩)⟩
        · exact ⟨2, by omega, r, Or.inr (Or.inr ⟨q, rfl⟩)⟩
      obtain ⟨kd, hkd, r58, hcd⟩ := hcase
      by_cases hkt : kd < t
      · refine ⟨-10 - 2, ph_i (ph_i h 0 11 0) 0 11 2, ph_i (ph_i (ph_i h 0 11 0) 0 11 2) 43 0 2, ?_, ?_, by rw [ph_ii]; exact inv_flt hi 2⟩
        · have htc : t = 1 ∨ t = 2 := by omega
          simp only [f_X11_as, w1 (ph_i h 0 11 0) (by simp [pr_row, up_at]) rfl, pu_b1, pu_lt, mo_b, q3', t2]
          rcases htc with rfl | rfl
          · rcases hcd with ⟨rfl, rfl⟩ | ⟨rfl, rfl⟩ | ⟨rfl, rfl⟩
            · simp [n_1.symm, s_faulty, pu_b2, gl_y, pr_2]
            · omega
            · omega
          · rcases hcd with ⟨rfl, rfl⟩ | ⟨rfl, rfl⟩ | ⟨rfl, rfl⟩
            · simp [n_2.symm, s_faulty, pu_b2, gl_y, pr_2]
            · simp [n_2.symm, s_faulty, pu_b2, gl_y, pr_2]
            · omega
        · simp [f_X12_as, w2 (ph_i (ph_i h 0 11 0) 0 11 2) (by simp [pr_row, up_at]) (by simp [pr_row]), pu_b1, t1, pu_gn hk6, hc, pr_row, r58, nI_lt hkt (show t < 2 ^ 31 by omega), m_failed, pu_b2]
      · refine ⟨1, ph_i h 0 11 0, ph_i (ph_i h 0 11 0) 43 0 0, ?_, ?_, inv_flt hi 0⟩
        · have htc : t = 0 ∨ t = 1 ∨ t = 2 := by omega
          simp only [f_X11_as, w1 (ph_i h 0 11 0) (by simp [pr_row, up_at]) rfl, pu_b1, pu_lt, mo_b, q3', t2]
          rcases htc with rfl | rfl | rfl
          · simp [n_0.symm]
          · rcases hcd with ⟨rfl, rfl⟩ | ⟨rfl, rfl⟩ | ⟨rfl, rfl⟩
            · omega
            · simp [n_1.symm]
            · simp [n_1.symm]
          · rcases hcd with ⟨rfl, rfl⟩ | ⟨rfl, rfl⟩ | ⟨rfl, rfl⟩
            · omega
            · omega
            · simp [n_2.symm]
        · simp [f_X12_as, w2 (ph_i h 0 11 0) (by simp [pr_row, up_at]) (by simp [pr_row]), pu_b1, t1, pu_gn hk6, hc, pr_row, r58, nI_nlt (show t ≤ kd by omega) (show kd < 2 ^ 31 by omega), m_refused, pu_b2]
    · refine ⟨-2, ph_i h 0 11 0, ph_i (ph_i h 0 11 0) 43 0 0, ?_, ?_, inv_flt hi 0⟩
      · have t2 : ∀ g : PH, f_X11_isKind y g = some 0 := fun g => by
          unfold f_X11_isKind
          by_cases h0 : 0 ≤ y.toInt
          · rw [if_neg (nI_nlt0 h0), if_pos (by rw [i_le]; omega)]
          · rw [if_pos (nI_lt0 (by omega))]
        simp [f_X11_as, w1 (ph_i h 0 11 0) (by simp [pr_row, up_at]) rfl, pu_b1, pu_lt, mo_b, q3', t2]
      · have t1 : ∀ g : PH, f_X12_in y.toInt64 0 2 g = some 0 := fun g => by rw [f_ini, if_neg (by omega)]
        simp [f_X12_as, w2 (ph_i h 0 11 0) (by simp [pr_row, up_at]) (by simp [pr_row]), pu_b1, t1, m_refused, pu_b2]
