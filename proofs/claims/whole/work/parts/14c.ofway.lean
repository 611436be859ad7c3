/-- the kind of a way -/
theorem w_kind {h : PH} {x o ci a m : Nat} (hw : iv_w h x o ci a m) : ∃ kd : Nat, kd < 3 ∧ h.1 58 x = nI kd ∧ ((ci = 1 ∧ kd = 0) ∨ (ci = 7 ∧ kd = 1) ∨ (ci = 9 ∧ kd = 2)) := by
  obtain ⟨q1, q2, q3, q4, q5, q6, q7, q8, q9, q10, q11, q12, q13, q14, q15⟩ := hw
  rcases q10 with ⟨q, r⟩ | ⟨q, r⟩ | ⟨q, r⟩
  · exact ⟨0, by omega, r, Or.inl ⟨q, rfl⟩⟩
  · exact ⟨1, by omega, r, Or.inr (Or.inl ⟨q, rfl⟩)⟩
  · exact ⟨2, by omega, r, Or.inr (Or.inr ⟨q, rfl⟩)⟩
def pcs (kd m : Nat) : Nat := m + if kd = 0 then 0 else 1
theorem s_pieces {g : PH} {o ci a m kd : Nat} (hz : ¬ g.1 o 2 = 0) (hk : (ci = 1 ∧ kd = 0) ∨ (ci = 7 ∧ kd = 1) ∨ (ci = 9 ∧ kd = 2)) : vd_pieces ci a m o g = some (nI (pcs kd m)) := by
  rcases hk with ⟨rfl, rfl⟩ | ⟨rfl, rfl⟩ | ⟨rfl, rfl⟩
  · simp only [vd_pieces, if_true, f_X1_pieces, pu_gz hz]
    rfl
  · simp only [vd_pieces, Nat.reduceEqDiff, if_false, if_true, f_X7_pieces, pu_gz hz]
    show some (nI m + 1) = some (nI (m + 1))
    rw [nI_succ]
  · simp only [vd_pieces, Nat.reduceEqDiff, if_false, f_X7_pieces, pu_gz hz]
    show some (nI m + 1) = some (nI (m + 1))
    rw [nI_succ]
theorem m_pieces {g : PH} {x m kd : Nat} (hx : x < 6) (hkd : kd < 3) (h58 : g.1 58 x = nI kd) (h60 : g.1 60 x = nI m) : f_X12_manyPieces (nI x) g = some (nI (pcs kd m)) := by
  unfold f_X12_manyPieces pcs
  have hc : (nI x).toNatClampNeg = x := nI_clamp (by omega)
  rw [pu_gn hx (by decide), pu_gn hx (by decide), hc, h58, h60]
  by_cases h0 : kd = 0
  · subst h0
    rw [if_pos (show nI 0 ≤ 0 by decide)]
    show some (nI m + nI 0) = _
    rw [nI_add]
    rfl
  · rw [if_neg (nI_nle (by omega) (by omega)), if_neg h0, nI_succ]
theorem o_ofWay {n : Nat} {h : PH} (hi : Inv n h) (x y : Int32) : ∃ r, f_X11_ofWay x y h = some r ∧ f_X12_ofWay x y h = some r := by
  obtain ⟨hS, hF, hH, hX, hP, hW, hR, hC⟩ := hi
  rcases wy hW x with ⟨w1, w2⟩ | ⟨k, o, ci, a, m, rfl, hk, hk6, hw, w1, w2⟩
  · exact ⟨-1, by simp [f_X11_ofWay, w1 h rfl rfl, pu_b1, mo_b], by simp [f_X12_ofWay, w2 h rfl rfl, pu_b1]⟩
  · have hc : (nI k).toNatClampNeg = k := nI_clamp (by omega)
    obtain ⟨kd, k1, k2, k3⟩ := w_kind hw
    obtain ⟨pt, hpt⟩ := w_pts hw
    have hw' := hw
    obtain ⟨q1, q2, q3, q4, q5, q6, q7, q8, q9, q10, q11, q12, q13, q14, q15⟩ := hw'
    have sk : vd_kind ci a m o h = some (nI kd) := by
      rcases k3 with ⟨rfl, rfl⟩ | ⟨rfl, rfl⟩ | ⟨rfl, rfl⟩ <;> rfl
    have sp := s_pieces (g := h) (a := a) (m := m) q6 k3
    have mp := m_pieces hk6 k1 k2 q13
    have z10 : (10 : Int64).toInt = 10 := rfl
    have y10 : (10 : Int32).toInt = 10 := rfl
    have zz : (9 + (nI m).toInt64).toInt = 9 + (m : Int) := by
      have h9 : (9 : Int64).toInt = 9 := rfl
      have h2 : ((nI m).toInt64).toInt = (m : Int) := by rw [i_l, nI_toInt (by omega)]
      rw [l_add (by omega) (by omega), h2, h9]
    have oN : Int32.ofNat m = nI m := rfl
    by_cases hy : 10 ≤ y.toInt ∧ y.toInt < 10 + m
    · obtain ⟨v, hv, rfl⟩ := x_of (show 0 ≤ y.toInt by omega)
      rw [nI_toInt hv] at hy
      obtain ⟨j, rfl⟩ : ∃ j, v = j + 10 := ⟨v - 10, by omega⟩
      have hj : j < m := by omega
      refine ⟨nI (pt j), ?_, ?_⟩
      · have e1 : nI (j + 10) - 10 = nI j := by
          show nI (j + 10) - nI 10 = nI j
          rw [nI_sub (by omega), Nat.add_sub_cancel]
        have e2 : ¬ nI (j + 10) < 10 := nI_nlt (show 10 ≤ j + 10 by omega) hv
        have e3 : ¬ nI m ≤ nI j := nI_ge hj (by omega)
        simp only [f_X11_ofWay, w1 h rfl rfl, pu_b1, mo_b, q3, e1, e2, e3, oN, if_false, pu_gz q6, pu_gn hj]
        rw [pu_gn hj (by omega), nI_clamp (by omega), (hpt j hj).2.1]
      · have t1 : f_X12_in (nI (j + 10)).toInt64 10 (9 + (nI m).toInt64) h = some 1 := by
          rw [f_ini, zz, nI_toInt hv, if_pos (by omega)]
        have n0 : ¬ nI (j + 10) = 0 := nI_ne0 (by omega) hv
        have n1 : ¬ nI (j + 10) = 1 := fun q => by have := nI_inj (show nI (j + 10) = nI 1 from q) hv (by omega); omega
        have n2 : ¬ nI (j + 10) = 2 := fun q => by have := nI_inj (show nI (j + 10) = nI 2 from q) hv (by omega); omega
        have n3 : ¬ nI (j + 10) = 3 := fun q => by have := nI_inj (show nI (j + 10) = nI 3 from q) hv (by omega); omega
        have e1 : 6 * nI k + nI (j + 10) - 10 = nI (6 * k + j) := by
          show nI 6 * nI k + nI (j + 10) - nI 10 = _
          rw [nI_mul, nI_add, nI_sub (by omega)]
          congr 1
        simp only [f_X12_ofWay, w2 h rfl rfl, pu_b1, if_true, n0, n1, n2, n3, if_false, hc, q13, t1, e1]
        rw [pu_gn hk6 (by decide), if_neg (by decide), pu_gn (show 6 * k + j < 36 by omega) (by decide), nI_clamp (by omega), (hpt j hj).2.2.1]
    · have t1 : f_X12_in y.toInt64 10 (9 + (nI m).toInt64) h = some 0 := by
        rw [f_ini, zz, if_neg (by omega)]
      refine ⟨if y = 0 then nI kd else if y = 1 then h.1 o 1 else if y = 2 then nI m else if y = 3 then nI (pcs kd m) else -2, ?_, ?_⟩
      · have e : f_X11_ofWay (nI k) y h = (if y = 0 then some (nI kd) else if y = 1 then some (h.1 o 1) else if y = 2 then some (nI m) else if y = 3 then some (nI (pcs kd m)) else some (-2)) := by
          by_cases h10 : y < 10
          · simp only [f_X11_ofWay, w1 h rfl rfl, pu_b1, mo_b, q3, h10, if_true, sk, sp, pu_gz q6, oN]
          · have e4 : nI m ≤ y - 10 := by
              have h10' : ¬ y.toInt < 10 := fun q => h10 (by rw [i_lt]; omega)
              have := i_rng y
              rw [i_le, i_sub (by omega) (by omega), nI_toInt (by omega), y10]
              omega
            simp only [f_X11_ofWay, w1 h rfl rfl, pu_b1, mo_b, q3, h10, if_false, sk, sp, pu_gz q6, oN, e4, if_true]
        rw [e]
        by_cases y0 : y = 0
        · simp [y0]
        by_cases y1 : y = 1
        · simp [y1]
        by_cases y2 : y = 2
        · simp [y2]
        by_cases y3 : y = 3
        · simp [y3]
        simp [y0, y1, y2, y3]
      · by_cases y0 : y = 0
        · simp [f_X12_ofWay, w2 h rfl rfl, pu_b1, y0, pu_gn hk6, hc, k2]
        by_cases y1 : y = 1
        · simp [f_X12_ofWay, w2 h rfl rfl, pu_b1, y1, pu_gn hk6, hc, q8]
        by_cases y2 : y = 2
        · simp [f_X12_ofWay, w2 h rfl rfl, pu_b1, y2, pu_gn hk6, hc, q13]
        by_cases y3 : y = 3
        · simp [f_X12_ofWay, w2 h rfl rfl, pu_b1, y3, mp]
        simp [f_X12_ofWay, w2 h rfl rfl, pu_b1, y0, y1, y2, y3, pu_gn hk6, hc, q13, t1]
