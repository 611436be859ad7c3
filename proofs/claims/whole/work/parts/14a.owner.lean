theorem l_wo0 {g : PH} {x : Nat} (p : Int32) (hx : x < 6) (h57 : g.1 57 x = 0) : lp_f (fun s => lb_X12_wayOf_12 p (nI x) g s) fu_l 0 = some (.inr 0) := by
  have hc : (nI x).toNatClampNeg = x := nI_clamp (by omega)
  refine lp_r ?_
  show lb_X12_wayOf_12 p (nI x) g 0 = _
  unfold lb_X12_wayOf_12
  rw [pu_gn hx (by decide), pu_gn hx (by decide), hc, h57]
  by_cases h1 : g.1 60 x ≤ 0
  · rw [if_pos h1]
  · rw [if_neg h1, if_pos rfl]
theorem l_wo1 {g : PH} {x m p : Nat} (hx : x < 6) (hm : m ≤ 6) (hp : p < 8) (h57 : g.1 57 x = 1) (h60 : g.1 60 x = nI m) (pt : Nat → Nat) (hpt : ∀ j, j < m → pt j < 8 ∧ g.1 61 (6 * x + j) = nI (pt j)) (hn : ∀ j, j < m → pt j ≠ p) : lp_f (fun s => lb_X12_wayOf_12 (nI p) (nI x) g s) fu_l 0 = some (.inr (nI m)) := by
  have hc : (nI x).toNatClampNeg = x := nI_clamp (by omega)
  refine lp_cnt (fun i => nI i) m _ (fun i hi => ?_) ?_ fu_l 0 (by omega) (by unfold fu_l; omega)
  · unfold lb_X12_wayOf_12
    have h1 : ¬ m ≤ i := by omega
    have h2 := (hpt i hi).1
    have h3 := hn i hi
    simp (disch := omega) only [pu_lt, pu_b1, pu_b2, pu_gn, n_0, n_1, n_2, n_3, n_4, n_5, n_6, n_7, n_8, n_9, n_10, n_14, n_20, n_31, n_48, n_59, n_70, n_98, n_99, n_100, n_104, n_200, n_1000, n_1M, n_10M, nI_add, nI_sub, nI_mul, nI_div, nI_clamp, nI_leI, nI_ltI, nI_eq, nI_ng, nI_nl, nI_nlt2, nI_nlt3, and_self, and_true, true_and, and_false, false_and, or_true, true_or, or_false, false_or, if_true, if_false, ↓reduceIte, not_true_eq_false, not_false_eq_true, reduceCtorEq, h60, h57, h1, (hpt i hi).2, h3, Nat.succ_ne_zero]
  · unfold lb_X12_wayOf_12
    simp (disch := omega) only [pu_lt, pu_b1, pu_b2, pu_gn, n_0, n_1, n_2, n_3, n_4, n_5, n_6, n_7, n_8, n_9, n_10, n_14, n_20, n_31, n_48, n_59, n_70, n_98, n_99, n_100, n_104, n_200, n_1000, n_1M, n_10M, nI_add, nI_sub, nI_mul, nI_div, nI_clamp, nI_leI, nI_ltI, nI_eq, nI_ng, nI_nl, nI_nlt2, nI_nlt3, and_self, and_true, true_and, and_false, false_and, or_true, true_or, or_false, false_or, if_true, if_false, ↓reduceIte, not_true_eq_false, not_false_eq_true, reduceCtorEq, h60, Nat.le_refl]
theorem l_wo2 {g : PH} {x m p j : Nat} (hx : x < 6) (hm : m ≤ 6) (hp : p < 8) (h57 : g.1 57 x = 1) (h60 : g.1 60 x = nI m) (pt : Nat → Nat) (hpt : ∀ j, j < m → pt j < 8 ∧ g.1 61 (6 * x + j) = nI (pt j)) (hj : j < m) (hjp : pt j = p) (hn : ∀ i, i < j → pt i ≠ p) : lp_f (fun s => lb_X12_wayOf_12 (nI p) (nI x) g s) fu_l 0 = some (.inl (nI x)) := by
  have hc : (nI x).toNatClampNeg = x := nI_clamp (by omega)
  refine lp_cnt (fun i => nI i) j _ (fun i hi => ?_) ?_ fu_l 0 (by omega) (by unfold fu_l; omega)
  · unfold lb_X12_wayOf_12
    have h1 : ¬ m ≤ i := by omega
    have h2 := (hpt i (by omega)).1
    have h3 := hn i hi
    simp (disch := omega) only [pu_lt, pu_b1, pu_b2, pu_gn, n_0, n_1, n_2, n_3, n_4, n_5, n_6, n_7, n_8, n_9, n_10, n_14, n_20, n_31, n_48, n_59, n_70, n_98, n_99, n_100, n_104, n_200, n_1000, n_1M, n_10M, nI_add, nI_sub, nI_mul, nI_div, nI_clamp, nI_leI, nI_ltI, nI_eq, nI_ng, nI_nl, nI_nlt2, nI_nlt3, and_self, and_true, true_and, and_false, false_and, or_true, true_or, or_false, false_or, if_true, if_false, ↓reduceIte, not_true_eq_false, not_false_eq_true, reduceCtorEq, h60, h57, h1, (hpt i (by omega)).2, h3, Nat.succ_ne_zero]
  · unfold lb_X12_wayOf_12
    have h1 : ¬ m ≤ j := by omega
    have h2 := (hpt j hj).1
    simp (disch := omega) only [pu_lt, pu_b1, pu_b2, pu_gn, n_0, n_1, n_2, n_3, n_4, n_5, n_6, n_7, n_8, n_9, n_10, n_14, n_20, n_31, n_48, n_59, n_70, n_98, n_99, n_100, n_104, n_200, n_1000, n_1M, n_10M, nI_add, nI_sub, nI_mul, nI_div, nI_clamp, nI_leI, nI_ltI, nI_eq, nI_ng, nI_nl, nI_nlt2, nI_nlt3, and_self, and_true, true_and, and_false, false_and, or_true, true_or, or_false, false_or, if_true, if_false, ↓reduceIte, not_true_eq_false, not_false_eq_true, reduceCtorEq, h60, h57, h1, (hpt j hj).2, hjp, Nat.succ_ne_zero]
/-- the points of a way -/
theorem w_pts {h : PH} {x o ci a m : Nat} (hw : iv_w h x o ci a m) : ∃ pt : Nat → Nat, ∀ j, j < m → pt j < hv_N h ∧ h.1 a j = nI (pt j) ∧ h.1 61 (6 * x + j) = nI (pt j) ∧ h.1 21 (pt j) = nI x := by
  obtain ⟨q1, q2, q3, q4, q5, q6, q7, q8, q9, q10, q11, q12, q13, q14, q15⟩ := hw
  refine ⟨fun j => (h.1 61 (6 * x + j)).toNatClampNeg, fun j hj => ?_⟩
  obtain ⟨p, p1, p2, p3, p4⟩ := q14 j hj
  by_cases hb : p < 2 ^ 31
  · have : (h.1 61 (6 * x + j)).toNatClampNeg = p := by rw [p3]; exact nI_clamp hb
    show (h.1 61 (6 * x + j)).toNatClampNeg < _ ∧ h.1 a j = nI ((h.1 61 (6 * x + j)).toNatClampNeg) ∧ h.1 61 (6 * x + j) = nI ((h.1 61 (6 * x + j)).toNatClampNeg) ∧ h.1 21 ((h.1 61 (6 * x + j)).toNatClampNeg) = _
    rw [this]
    exact ⟨p1, p2, p3, p4⟩
  · exfalso
    have : hv_N h < 2 ^ 31 := by
      unfold hv_N
      have h1 := i_rng (h.1 17 0)
      rw [show (h.1 17 0).toNatClampNeg = (h.1 17 0).toInt.toNat from rfl]
      omega
    omega
theorem nI_inj {a b : Nat} (h : nI a = nI b) (ha : a < 2 ^ 31) (hb : b < 2 ^ 31) : a = b := (nI_eq ha hb).mp h
/-- whose a point is: both say the same -/
theorem m_wayOf {h g : PH} (hW : iv_W h) (hN : hv_N h ≤ 8) {p : Nat} (hp : p < hv_N h) (e43 : g.1 43 23 = h.1 43 23) (e57 : g.1 57 = h.1 57) (e60 : g.1 60 = h.1 60) (e61 : g.1 61 = h.1 61) : f_X12_wayOf (nI p) g = some (h.1 21 p) := by
  obtain ⟨⟨w1, w2, w3⟩, w4, w5, w6⟩ := hW
  have hg : g.1 43 23 = nI (hv_W h) := by rw [e43, w3]; exact w1
  -- the way x, which has p or not
  have one : ∀ x, x < hv_W h → h.1 21 p ≠ nI x → ∃ e, lp_f (fun s => lb_X12_wayOf_12 (nI p) (nI x) g s) fu_l 0 = some (.inr e) := by
    intro x hx hne
    rcases w5 x hx with ⟨q1, q2⟩ | ⟨o, ci, a, m, q⟩
    · exact ⟨_, l_wo0 (nI p) (by omega) (by rw [e57]; exact q2)⟩
    · obtain ⟨pt, hpt⟩ := w_pts q
      refine ⟨_, l_wo1 (x := x) (m := m) (by omega) q.2.2.2.2.2.2.2.2.2.2.2.1 (by omega) (by rw [e57]; exact q.2.1) (by rw [e60]; exact q.2.2.2.2.2.2.2.2.2.2.2.2.1) pt (fun j hj => ⟨by have := (hpt j hj).1; omega, by rw [e61]; exact (hpt j hj).2.2.1⟩) (fun j hj hjp => ?_)⟩
      have := (hpt j hj).2.2.2
      rw [hjp] at this
      exact hne this
  unfold f_X12_wayOf
  rcases w6 p hp with q | ⟨x, o, ci, a, m, k, q1, q2, q3, q4⟩
  · have e : lp_f (fun s => lb_X12_wayOf_2 (nI p) g s) fu_l 0 = some (.inr (nI (hv_W h))) := by
      refine lp_cnt (fun i => nI i) (hv_W h) _ (fun i hi => ?_) ?_ fu_l 0 (by omega) (by unfold fu_l; omega)
      · obtain ⟨e, he⟩ := one i hi (by rw [q]; exact fun r => by have := nI_ng (show i < 2 ^ 31 by omega) (show 0 < 9 by decide) (show 9 < 2 ^ 31 by decide); rw [← this]; exact r.symm)
        unfold lb_X12_wayOf_2
        have h1 : ¬ hv_W h ≤ i := by omega
        rw [hg, if_neg (fun r => h1 ((nI_leI (by omega) (by omega)).mp r)), he, pu_b1]
        show some (Sum.inl (nI i + 1)) = some (Sum.inl (nI (i + 1)))
        rw [nI_succ]
      · unfold lb_X12_wayOf_2
        rw [hg, if_pos (nI_le (Nat.le_refl _) (by omega))]
    rw [e, pu_b1, q]
    rfl
  · obtain ⟨pt, hpt⟩ := w_pts q2
    have hpk : pt k = p := by
      have := (hpt k q3).2.1
      rw [q4] at this
      exact (nI_inj this (by omega) (by have := (hpt k q3).1; omega)).symm
    have hown : h.1 21 p = nI x := by rw [← hpk]; exact (hpt k q3).2.2.2
    have hcol : ∃ j, j < m ∧ pt j = p ∧ ∀ i, i < j → pt i ≠ p := by
      refine ⟨k, q3, hpk, fun i hi hip => ?_⟩
      have h1 := (hpt i (by omega)).2.1
      have h2 := (hpt k q3).2.1
      rw [hip] at h1
      rw [hpk] at h2
      have := q2.2.2.2.2.2.2.2.2.2.2.2.2.2.2 i k (by omega) q3 (by rw [h1, h2])
      omega
    obtain ⟨j, hj, hjp, hjn⟩ := hcol
    have hx6 : x < 6 := by omega
    have e : lp_f (fun s => lb_X12_wayOf_2 (nI p) g s) fu_l 0 = some (.inl (nI x)) := by
      refine lp_cnt (fun i => nI i) x _ (fun i hi => ?_) ?_ fu_l 0 (by omega) (by unfold fu_l; omega)
      · obtain ⟨e, he⟩ := one i (by omega) (by rw [hown]; exact fun r => by have := nI_inj r (by omega) (by omega); omega)
        unfold lb_X12_wayOf_2
        have h1 : ¬ hv_W h ≤ i := by omega
        rw [hg, if_neg (fun r => h1 ((nI_leI (by omega) (by omega)).mp r)), he, pu_b1]
        show some (Sum.inl (nI i + 1)) = some (Sum.inl (nI (i + 1)))
        rw [nI_succ]
      · unfold lb_X12_wayOf_2
        have h1 : ¬ hv_W h ≤ x := by omega
        rw [hg, if_neg (fun r => h1 ((nI_leI (by omega) (by omega)).mp r)), l_wo2 (x := x) (m := m) (p := p) (j := j) hx6 q2.2.2.2.2.2.2.2.2.2.2.2.1 (by omega) (by rw [e57]; exact q2.2.1) (by rw [e60]; exact q2.2.2.2.2.2.2.2.2.2.2.2.2.1) pt (fun j hj => ⟨by have := (hpt j hj).1; omega, by rw [e61]; exact (hpt j hj).2.2.1⟩) hj hjp hjn, pu_b1]
        rfl
    rw [e, pu_b1, hown]
    rfl
theorem o_ofPoint {n : Nat} {h : PH} (hi : Inv n h) (x y : Int32) : ∃ r, f_X11_ofPoint x y h = some r ∧ f_X12_ofPoint x y h = some r := by
  obtain ⟨hS, hF, hH, hX, hP, hW, hR, hC⟩ := hi
  rcases rg_pt hP x with ⟨k, hk, hk2, rfl, w1, w2⟩ | ⟨w1, w2⟩
  · obtain ⟨⟨_, _, k1⟩, ⟨_, _, _, k2⟩, ⟨_, _, k3⟩⟩ := hP.2 k hk
    have k4 := m_wayOf (g := h) hW hP.1.2.1 hk rfl rfl rfl rfl
    have hc : (nI k).toNatClampNeg = k := nI_clamp (by omega)
    refine ⟨if y = 0 then h.1 18 k else if y = 1 then h.1 19 k else if y = 2 then h.1 20 k else if y = 3 then h.1 21 k else -2, ?_, ?_⟩
    all_goals
      by_cases y0 : y = 0
      · simp [f_X11_ofPoint, f_X12_ofPoint, w1 h rfl, w2 h rfl, pu_b1, hc, k1, k2, k3, k4, pu_gn hk2, y0]
      by_cases y1 : y = 1
      · simp [f_X11_ofPoint, f_X12_ofPoint, w1 h rfl, w2 h rfl, pu_b1, hc, k1, k2, k3, k4, pu_gn hk2, y1]
      by_cases y2 : y = 2
      · simp [f_X11_ofPoint, f_X12_ofPoint, w1 h rfl, w2 h rfl, pu_b1, hc, k1, k2, k3, k4, pu_gn hk2, y2]
      by_cases y3 : y = 3
      · simp [f_X11_ofPoint, f_X12_ofPoint, w1 h rfl, w2 h rfl, pu_b1, hc, k1, k2, k3, k4, pu_gn hk2, y3]
      simp [f_X11_ofPoint, f_X12_ofPoint, w1 h rfl, w2 h rfl, pu_b1, hc, k1, k2, k3, k4, pu_gn hk2, y0, y1, y2, y3]
  · exact ⟨-1, by simp [f_X11_ofPoint, w1 h rfl, pu_b1], by simp [f_X12_ofPoint, w2 h rfl, pu_b1]⟩
