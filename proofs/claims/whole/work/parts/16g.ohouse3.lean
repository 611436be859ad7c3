theorem sc_ne {a m : Nat} (ha : sc_b a = false) (hm : sc_b m = true) : a ≠ m := fun q => by
  subst q
  rw [hm] at ha
  cases ha
set_option maxHeartbeats 2000000 in
theorem o_house {n : Nat} {h : PH} (hi : Inv n h) (x y z u : Int32) : ∃ r h1 h2, f_X11_house x y z u h = some (r, h1) ∧ f_X12_house x y z u h1 = some (r, h2) ∧ Inv (n + 1) h2 := by
  have hI := hi
  obtain ⟨hS, hF, hH, hX, hP, hW, hR, hC⟩ := hi
  by_cases hs : 0 ≤ x.toInt ∧ x.toInt < 4
  rotate_left
  · refine ⟨-1, ph_i h 0 11 0, ph_i (ph_i h 0 11 0) 43 0 0, ?_, ?_, inv_flt hI 0⟩
    · simp [f_X11_house, s_isSheet, hs, pu_lt, pu_b1]
    · simp [f_X12_house, m_noSheet, hs, pu_b1, m_refused, pu_b2]
  obtain ⟨k, hk, rfl⟩ := sh_in hs
  by_cases hl : 0 ≤ y.toInt ∧ y.toInt < 3
  rotate_left
  · refine ⟨-2, ph_i h 0 11 0, ph_i (ph_i h 0 11 0) 43 0 0, ?_, ?_, inv_flt hI 0⟩
    · simp [f_X11_house, s_isSheet, s_isLane, hs, hl, pu_lt, pu_b1]
    · simp [f_X12_house, m_noSheet, m_isLane, hs, hl, pu_b1, m_refused, pu_b2]
  obtain ⟨f, hf4, fo1, fo2, fo3⟩ := fo_c2 hS hk y z u (g := ph_i h 0 11 0) (by simp [pr_row]) (by simp [pr_row])
  by_cases hf : f = 0
  rotate_left
  · have hf' : ¬ nI f = 0 := nI_ne0 (Nat.pos_of_ne_zero hf) (Nat.lt_of_le_of_lt hf4 (by decide))
    refine ⟨-10 - nI f, ph_i (ph_i h 0 11 0) 0 11 (nI f), ph_i (ph_i (ph_i h 0 11 0) 0 11 (nI f)) 43 0 (nI f), ?_, ?_, inv_flt2 hI 0 (nI f)⟩
    · unfold f_X11_house
      rw [pu_lt, s_isSheet, if_pos hs, pu_b1, if_neg (show ¬ (1 : Int32) = 0 by decide), s_isLane, if_pos hl, pu_b1, if_neg (show ¬ (1 : Int32) = 0 by decide), fo1, pu_b1, if_neg hf', s_faulty, pu_b2]
    · unfold f_X12_house
      rw [m_noSheet, if_pos hs, pu_b1, if_pos (show (0 : Int32) = 0 from rfl), m_isLane, if_pos hl, pu_b1, if_neg (show ¬ (1 : Int32) = 0 by decide), fo2 (ph_i (ph_i h 0 11 0) 0 11 (nI f)) (by simp [pr_row]) (by simp [pr_row]), if_neg hf, pu_b2, if_neg (neg10 hf hf4)]
  subst hf
  obtain ⟨ln, j, m, hln, hlen, rfl, rfl, hjm⟩ := fo3 rfl
  have fo2' : ∀ g2 : PH, g2.1 67 = h.1 67 → g2.1 68 = h.1 68 → f_X12_barred (nI k) y (nI j) (nI m).toInt64 g2 = some (0, g2) := fun g2 a1 a2 => fo2 g2 a1 a2
  have fo1' : f_X8_faultOfCells (nI k) y (nI j) (nI m) (ph_i h 0 11 0) = some 0 := fo1
  have sp1 : nI k * 100 + nI j = nI (k * 100 + j) := by
    show nI k * nI 100 + nI j = _
    rw [nI_mul, nI_add]
  have sp2 : 100 * nI k + nI j = nI (k * 100 + j) := by
    show nI 100 * nI k + nI j = _
    rw [nI_mul, nI_add, Nat.mul_comm]
  have hsp : k * 100 + j + m ≤ 400 := by omega
  obtain ⟨g, eg⟩ : ∃ g, g = ph_i h 0 11 0 := ⟨_, rfl⟩
  obtain ⟨sp, esp⟩ : ∃ sp, sp = k * 100 + j := ⟨_, rfl⟩
  rw [← esp] at sp1 sp2 hsp
  rw [← eg] at fo1'
  have cl : f_X11_house (nI k) y (nI j) (nI m) h = bd_2 (f_X10_isRead (nI sp) (nI m) g) fun r_6 h_7 => if r_6 = 0 then (bd_1 (f_X10_firstFault h_7) fun r_14 => some ((-100) - r_14, h_7)) else (bd_2 (f_X3_take h_7) fun r_8 h_9 => lt_b (ph_i h_9 17 0 0) fun h_10 => lt_b (ph_i h_10 37 0 0) fun h_11 => bd_2 (f_X11_forgetWays h_11) fun r_12 h_13 => some (h_13.1 10 2, h_13)) := by
    unfold f_X11_house f_X8_spot
    rw [pu_lt, ← eg, s_isSheet, if_pos hs, pu_b1, if_neg (show ¬ (1 : Int32) = 0 by decide), s_isLane, if_pos hl, pu_b1, if_neg (show ¬ (1 : Int32) = 0 by decide), fo1', pu_b1, if_pos (show (0 : Int32) = 0 from rfl), sp1, pu_b1]
  have mo : ∀ gm : PH, gm.1 67 = h.1 67 → gm.1 68 = h.1 68 → f_X12_house (nI k) y (nI j) (nI m) gm = bd_2 (f_X12_readsHouse (nI sp) (nI m) gm) fun r_5 h_6 => if r_5 = 0 then (bd_2 (f_X12_refused ((-100) - (h_6.1 43 9)) h_6) fun r_50 h_51 => some (r_50, h_51)) else (lt_b (ph_i h_6 43 1 (h_6.1 43 11)) fun h_7 => lt_b (ph_i h_7 43 2 (h_7.1 43 12)) fun h_8 => lt_b (ph_i h_8 43 3 (h_8.1 43 13)) fun h_9 => bd_1 (lp_f (fun s => lb_X12_house_101 s.1 s.2) fu_l (0, h_9)) fun s_42 => lt_b (ph_i s_42.2 43 19 0) fun h_43 => lt_b (ph_i h_43 43 23 0) fun h_44 => lt_b (ph_i h_44 43 37 0) fun h_45 => bd_2 (f_X12_layFar h_45) fun r_46 h_47 => bd_2 (f_X12_refused (h_47.1 43 3) h_47) fun r_48 h_49 => some (r_48, h_49)) := by
    intro gm a1 a2
    unfold f_X12_house
    rw [m_noSheet, if_pos hs, pu_b1, if_pos (show (0 : Int32) = 0 from rfl), m_isLane, if_pos hl, pu_b1, if_neg (show ¬ (1 : Int32) = 0 by decide), fo2' gm a1 a2, pu_b2, if_pos (show (0 : Int32) ≤ 0 by decide), sp2]
  have gr : ∀ a, a ≠ 0 → g.1 a = h.1 a := fun a ha => by rw [eg, pr_ne ha]
  have hT : ∀ gm : PH, gm.1 69 = h.1 69 → ∀ i, gm.1 69 (sp + i) = g.1 4 (sp + i) := fun gm e i => by rw [e, gr 4 (by decide), hS.1]
  have z11 : g.1 0 11 = 0 := by rw [eg, pr_eq, if_pos rfl]
  have z5 : g.1 0 5 = h.1 0 5 := by rw [eg, pr_eq, if_neg (by decide)]
  have g2 : g.2 = h.2 := by rw [eg]; rfl
  rcases read_both (g := g) (gm := g) hsp (hT g (gr 69 (by decide))) with ⟨q, hq, ⟨h2, e1, c1⟩, _⟩ | ⟨P, B, R, ff, tt, yy, dd, hP2, hP8, hB, hR1, hR14, hok, ⟨h2, e1, c1, c6⟩, _⟩
  · have hr : ∀ a, a ≠ 0 → a ≠ 5 → a ≠ 6 → a ≠ 7 → a ≠ 8 → a ≠ 9 → h2.1 a = h.1 a := fun a a0 a5 a6 a7 a8 a9 => by rw [c1.1 a a5 a6 a7 a8 a9, gr a a0]
    rcases read_both (g := g) (gm := h2) hsp (hT h2 (hr 69 (by decide) (by decide) (by decide) (by decide) (by decide) (by decide))) with ⟨q', hq', ⟨h2', e1', c1'⟩, ⟨hm, em, cm⟩⟩ | ⟨P, B, R, ff, tt, yy, dd, _, _, _, _, _, _, ⟨h2', e1', _, _⟩, _⟩
    · have e2 : h2' = h2 := by
        rw [e1] at e1'
        exact (Prod.mk.inj (Option.some.inj e1')).2.symm
      subst e2
      have hqq : q' = q := by
        have a1 := c1.2.2.2.2.2.1
        have a2 := c1'.2.2.2.2.2.1
        rw [a1] at a2
        have := (nI_eq (by omega) (by omega)).mp a2
        omega
      subst hqq
      refine ⟨-100 - nI q', h2', ph_i hm 43 0 0, ?_, ?_, ?_⟩
      · rw [cl, e1, pu_b2, if_pos rfl]
        unfold f_X10_firstFault
        rw [c1.2.2.2.1, c1.2.2.2.2.2.1, nI_sub (by omega), Nat.add_sub_cancel_left, pu_b1]
      · rw [mo h2' (hr 67 (by decide) (by decide) (by decide) (by decide) (by decide) (by decide)) (hr 68 (by decide) (by decide) (by decide) (by decide) (by decide) (by decide)), em, pu_b2, if_pos rfl, cm.2.2.2.1, m_refused, pu_b2]
      · have m0 : hm.1 0 = h2'.1 0 := cm.1 0 (by decide) (by decide) (by decide) (by decide) (by decide)
        have k0 : h2'.1 0 = g.1 0 := c1.1 0 (by decide) (by decide) (by decide) (by decide) (by decide)
        refine inv_frame hI (fun a ha => ?_) (fun i hi => ?_) ?_ ?_ ?_
        · rw [pr_ne (sc_ne ha rfl), cm.1 a (sc_ne ha rfl) (sc_ne ha rfl) (sc_ne ha rfl) (sc_ne ha rfl) (sc_ne ha rfl)]
          exact hr a (sc_ne ha rfl) (sc_ne ha rfl) (sc_ne ha rfl) (sc_ne ha rfl) (sc_ne ha rfl) (sc_ne ha rfl)
        · rw [pr_eq, if_neg (by omega), cm.2.1 i (by omega), hr 43 (by decide) (by decide) (by decide) (by decide) (by decide) (by decide)]
        · rw [pr_ne (by decide), m0, k0, z5]
        · rw [pr_ne (by decide), m0, k0, z11, pr_eq, if_pos rfl]
        · show hm.2.2 = _
          rw [cm.2.2.1, c1.2.1, g2]
    · exfalso
      rw [e1] at e1'
      exact absurd (Prod.mk.inj (Option.some.inj e1')).1 (by decide)
  · obtain ⟨c0, c4, c5, cr⟩ := c1
    obtain ⟨H, t1, t2, t3, t4, t5, t6, t7⟩ := s_take (h7 := h2) c4 c5 c6 hP8 hR14 cr hok
    obtain ⟨X16, eX⟩ : ∃ X16, X16 = mt (H.1 16) (fw P (rn (hv_f H) (hv_t H) (hv_c H) (fun k => H.1 15 k == 0) R) P) := ⟨_, rfl⟩
    rw [← eX] at t1
    obtain ⟨T, eT⟩ : ∃ T, T = ph_r H 16 X16 := ⟨_, rfl⟩
    rw [← eT] at t1
    obtain ⟨g3, w1, w2, w3, w4, w5⟩ := s_forget (ph_i (ph_i T 17 0 0) 37 0 0)
    have r3 : ∀ a, a ≠ 0 → a ≠ 16 → a ≠ 17 → a ≠ 37 → g3.1 a = H.1 a := fun a a0 a16 a17 a37 => by rw [w2, pr_ne a0, pr_ne a37, pr_ne a17, eT, pr_rn a16]
    have r2 : ∀ a, a ≠ 0 → a ≠ 5 → a ≠ 6 → a ≠ 7 → a ≠ 8 → a ≠ 9 → a ≠ 10 → a ≠ 11 → a ≠ 12 → a ≠ 13 → a ≠ 14 → a ≠ 15 → a ≠ 16 → a ≠ 17 → a ≠ 37 → g3.1 a = h.1 a := fun a a0 a5 a6 a7 a8 a9 a10 a11 a12 a13 a14 a15 a16 a17 a37 => by rw [r3 a a0 a16 a17 a37, t2 a a10 a11 a12 a13 a14 a15, c0.1 a a5 a6 a7 a8 a9, gr a a0]
    have e43 : g3.1 43 = h.1 43 := by apply r2 <;> decide
    have h0 : H.1 0 = g.1 0 := by rw [t2 0 (by decide) (by decide) (by decide) (by decide) (by decide) (by decide), c0.1 0 (by decide) (by decide) (by decide) (by decide) (by decide)]
    have y5 : g3.1 0 5 = 0 := by rw [w2, pr_eq, if_pos rfl]
    have y11 : g3.1 0 11 = 0 := by rw [w2, pr_eq, if_neg (by decide), pr_ne (by decide), pr_ne (by decide), eT, pr_rn (by decide), h0, z11]
    have y16 : g3.1 16 = X16 := by rw [w2, pr_ne (by decide), pr_ne (by decide), pr_ne (by decide), eT, pr_re]
    have y17 : g3.1 17 0 = 0 := by rw [w2, pr_ne (by decide), pr_ne (by decide), pr_eq, if_pos rfl]
    have y37 : g3.1 37 0 = 0 := by rw [w2, pr_ne (by decide), pr_eq, if_pos rfl]
    have y10 : g3.1 10 = H.1 10 := by apply r3 <;> decide
    rcases read_both (g := g) (gm := g3) hsp (hT g3 (by apply r2 <;> decide)) with ⟨q', hq', ⟨h2', e1', c1'⟩, _⟩ | ⟨P', B', R', f', t', y', d', _, hP8', _, hR1', hR14', hok', ⟨h2', e1', c1', c6'⟩, ⟨hm, em, cm⟩⟩
    · exfalso
      rw [e1] at e1'
      exact absurd (Prod.mk.inj (Option.some.inj e1')).1 (by decide)
    have e2 : h2' = h2 := by
      rw [e1] at e1'
      exact (Prod.mk.inj (Option.some.inj e1')).2.symm
    subst e2
    obtain ⟨_, c4', c5', cr'⟩ := c1'
    have nP : nI P' = nI P := by rw [← c4', c4]
    have nB : nI B' = nI B := by rw [← c5', c5]
    have nR : R' = R := by
      have a2 := c6'
      rw [c6] at a2
      have := (nI_eq (by omega) (by omega)).mp a2
      omega
    subst nR
    obtain ⟨mf, m11, m12, m13, mr⟩ := cm
    rw [nP] at m11
    rw [nB] at m12
    have mr2 : ∀ j, j < R' → hm.1 49 j = nI (ff j) ∧ hm.1 50 j = nI (tt j) ∧ hm.1 51 j = nI (yy j) ∧ hm.1 52 j = nI (dd j) := by
      intro j hj
      obtain ⟨a1, a2, a3, a4⟩ := mr j hj
      obtain ⟨b1, b2, b3, b4⟩ := cr j hj
      obtain ⟨b5, b6, b7, b8⟩ := cr' j hj
      exact ⟨by rw [a1, ← b5, b1], by rw [a2, ← b6, b2], by rw [a3, ← b7, b3], by rw [a4, ← b8, b4]⟩
    obtain ⟨h9, e9⟩ : ∃ h9, h9 = ph_i (ph_i (ph_i hm 43 1 (nI P)) 43 2 (nI B)) 43 3 (nI R') := ⟨_, rfl⟩
    have r9 : ∀ a, a ≠ 43 → h9.1 a = hm.1 a := fun a ha => by rw [e9, pr_ne ha, pr_ne ha, pr_ne ha]
    obtain ⟨xx, K, l1, k1, k2, k3⟩ := m_take (h3 := h9) (by rw [e9, pr_eq, if_pos rfl]) hR14 (fun j hj => by
      rw [r9 49 (by decide), r9 50 (by decide), r9 51 (by decide), r9 52 (by decide)]
      exact mr2 j hj)
    obtain ⟨h45, e45⟩ : ∃ h45, h45 = ph_i (ph_i (ph_i K 43 19 0) 43 23 0) 43 37 0 := ⟨_, rfl⟩
    have r45 : ∀ a, a ≠ 43 → h45.1 a = K.1 a := fun a ha => by rw [e45, pr_ne ha, pr_ne ha, pr_ne ha]
    have rr45 : ∀ a, a ≠ 43 → a ≠ 44 → a ≠ 45 → a ≠ 46 → a ≠ 47 → a ≠ 48 → a ≠ 49 → a ≠ 50 → a ≠ 51 → a ≠ 52 → h45.1 a = g3.1 a := fun a a1 a2 a3 a4 a5 a6 a7 a8 a9 a10 => by rw [r45 a a1, k1 a a2 a3 a4 a5 a6, r9 a a1, mf.1 a a1 a7 a8 a9 a10]
    have f45 : ∀ i, h45.1 43 i = if i = 37 then 0 else if i = 23 then 0 else if i = 19 then 0 else if i = 3 then nI R' else if i = 2 then nI B else if i = 1 then nI P else hm.1 43 i := fun i => by rw [e45, pr_eq, pr_eq, pr_eq, k1 43 (by decide) (by decide) (by decide) (by decide) (by decide), e9, pr_eq, pr_eq, pr_eq]
    have q10 : h45.1 10 = H.1 10 := by rw [← y10]; apply rr45 <;> decide
    have rH : ∀ a, a = 11 ∨ a = 12 ∨ a = 13 ∨ a = 14 ∨ a = 15 → h45.1 a = H.1 a := fun a ha => by rw [← r3 a (by omega) (by omega) (by omega) (by omega)]; apply rr45 <;> omega
    have gc45 : ∀ j, j < R' → h45.1 11 j = nI (ff j) ∧ h45.1 12 j = nI (tt j) ∧ h45.1 13 j = nI (yy j) ∧ h45.1 14 j = nI (dd j) ∧ h45.1 15 j = 0 := fun j hj => by
      rw [rH 11 (by omega), rH 12 (by omega), rH 13 (by omega), rH 14 (by omega), rH 15 (by omega)]
      exact t7 j hj
    have gm45 : ∀ j, j < R' → h45.1 44 j = nI (ff j) ∧ h45.1 45 j = nI (tt j) ∧ h45.1 46 j = nI (yy j) ∧ h45.1 47 j = nI (dd j) ∧ h45.1 48 j = 0 := fun j hj => by
      rw [r45 44 (by decide), r45 45 (by decide), r45 46 (by decide), r45 47 (by decide), r45 48 (by decide)]
      exact k3 j hj
    have hv45 : ∀ j, j < R' → hv_f h45 j = ff j ∧ hv_t h45 j = tt j ∧ hv_y h45 j = yy j ∧ hv_d h45 j = dd j := fun j hj => by
      obtain ⟨a1, a2, a3, a4, _⟩ := gc45 j hj
      obtain ⟨o1, o2, o3, o4, o5, o6⟩ := hok j hj
      unfold hv_f hv_t hv_y hv_d
      rw [a1, a2, a3, a4]
      exact ⟨nI_clamp (by omega), nI_clamp (by omega), nI_clamp (by omega), nI_clamp (by omega)⟩
    have hrm : hr_m h45 P R' (hv_f h45) (hv_t h45) (hv_y h45) (hv_d h45) := by
      refine ⟨by rw [f45]; rfl, by rw [f45]; rfl, hP8, hR14, fun j hj => ?_⟩
      obtain ⟨b1, b2, b3, b4⟩ := hv45 j hj
      obtain ⟨a1, a2, a3, a4, _⟩ := gm45 j hj
      obtain ⟨o1, o2, o3, o4, o5, o6⟩ := hok j hj
      rw [b1, b2, b3, b4]
      exact ⟨a1, a2, a3, a4, o1, o2, o4, o5, o6⟩
    have lay := m_layFar hrm
    obtain ⟨X53, eX53⟩ : ∃ X53, X53 = mt (h45.1 53) (rr P R' (hv_f h45) (hv_t h45) (fun k => 1000 * hv_y h45 k + hv_d h45 k) (fun k => h45.1 48 k == 0) (P - 1)) := ⟨_, rfl⟩
    rw [← eX53] at lay
    obtain ⟨F, eF⟩ : ∃ F, F = ph_i (ph_r h45 53 X53) 43 0 0 := ⟨_, rfl⟩
    refine ⟨nI R', g3, F, ?_, ?_, ?_⟩
    · rw [cl, e1, pu_b2, if_neg (show ¬ (1 : Int32) = 0 by decide), t1, pu_b2, pu_lt, pu_lt, w1, pu_b2, y10, t6]
    · rw [mo g3 (by apply r2 <;> decide) (by apply r2 <;> decide), em, pu_b2, if_neg (show ¬ (1 : Int32) = 0 by decide), pu_lt, m11, pu_lt, pr_eq hm, if_neg (show ¬ 12 = 1 by decide), m12, pu_lt, pr_eq (ph_i hm 43 1 (nI P)), if_neg (show ¬ 13 = 2 by decide), pr_eq hm, if_neg (show ¬ 13 = 1 by decide), m13, ← e9, l1, pu_b1, pu_lt, pu_lt, pu_lt, ← e45, lay, pu_b2, m_refused, pu_b2, ← eF, pr_rn (show 43 ≠ 53 by decide), f45]
      rfl
    · have rF : ∀ a, a ≠ 43 → a ≠ 53 → F.1 a = h45.1 a := fun a a1 a2 => by rw [eF, pr_ne a1, pr_rn a2]
      have fF : ∀ i, F.1 43 i = if i = 0 then 0 else h45.1 43 i := fun i => by rw [eF, pr_eq, pr_rn (by decide)]
      have s2 : F.2 = g3.2 := by
        rw [eF]
        show h45.2 = _
        rw [e45]
        show K.2 = _
        rw [k2, e9]
        exact mf.2.2.1
      have q22 : (ph_i (ph_i T 17 0 0) 37 0 0).2 = h.2 := by
        show T.2 = _
        rw [eT]
        show H.2 = _
        rw [t3, c0.2.1, g2]
      refine inv_house (P := P) (B := B) (R := R') (f := ff) (t := tt) (y := yy) (d := dd) hI ⟨hP2, hP8⟩ hB hR14 hok (fun a ha a10 a11 a12 a13 a14 a15 a16 a17 a37 a44 a45 a46 a47 a48 a53 => ?_) ?_ ?_ ?_ ?_ ?_ ?_ ?_ ?_ ?_ ?_ (fun j hj => ?_) (fun j hj => ?_) ?_ ?_ ?_ ?_ ?_ (fun x hx => ?_) (fun a x o ho => ?_) ?_ (fun hHF => ?_)
      · rw [rF a (sc_ne ha rfl) a53, rr45 a (sc_ne ha rfl) a44 a45 a46 a47 a48 (sc_ne ha rfl) (sc_ne ha rfl) (sc_ne ha rfl) (sc_ne ha rfl)]
        exact r2 a (sc_ne ha rfl) (sc_ne ha rfl) (sc_ne ha rfl) (sc_ne ha rfl) (sc_ne ha rfl) (sc_ne ha rfl) a10 a11 a12 a13 a14 a15 a16 a17 a37
      · rw [rF 0 (by decide) (by decide), ← y5]; apply congrFun; apply rr45 <;> decide
      · rw [rF 0 (by decide) (by decide), ← y11]; apply congrFun; apply rr45 <;> decide
      · rw [fF, if_pos rfl]
      · rw [fF, if_neg (by decide), f45]
        show hm.1 43 44 = _
        rw [mf.2.1 44 (by decide), e43]
      · rw [rF 10 (by decide) (by decide), q10, t4]
      · rw [rF 10 (by decide) (by decide), q10, t5]
      · rw [rF 10 (by decide) (by decide), q10, t6]
      · rw [fF, if_neg (by decide), f45]; rfl
      · rw [fF, if_neg (by decide), f45]; rfl
      · rw [fF, if_neg (by decide), f45]; rfl
      · rw [rF 11 (by decide) (by decide), rF 12 (by decide) (by decide), rF 13 (by decide) (by decide), rF 14 (by decide) (by decide), rF 15 (by decide) (by decide)]
        exact gc45 j hj
      · rw [rF 44 (by decide) (by decide), rF 45 (by decide) (by decide), rF 46 (by decide) (by decide), rF 47 (by decide) (by decide), rF 48 (by decide) (by decide)]
        exact gm45 j hj
      · rw [rF 17 (by decide) (by decide), ← y17]; apply congrFun; apply rr45 <;> decide
      · rw [fF, if_neg (by decide), f45]; rfl
      · rw [fF, if_neg (by decide), f45]; rfl
      · rw [rF 37 (by decide) (by decide), ← y37]; apply congrFun; apply rr45 <;> decide
      · rw [fF, if_neg (by decide), f45]; rfl
      · rw [s2]; exact w5 x hx
      · rw [s2] at ho
        have := w4 a x o ho
        rw [q22] at this
        exact this
      · rw [s2, w3, q22]
      · have aP : hv_P F = P := by
          unfold hv_P
          rw [rF 10 (by decide) (by decide), q10, t4]
          exact nI_clamp (by omega)
        have aR : hv_R F = R' := by
          unfold hv_R
          rw [rF 10 (by decide) (by decide), q10, t6]
          exact nI_clamp (by omega)
        have v1 : hv_f F = hv_f h45 := by funext j; unfold hv_f; rw [rF 11 (by decide) (by decide)]
        have v2 : hv_t F = hv_t h45 := by funext j; unfold hv_t; rw [rF 12 (by decide) (by decide)]
        have v3 : hv_c F = hv_c h45 := by funext j; unfold hv_c hv_y hv_d; rw [rF 13 (by decide) (by decide), rF 14 (by decide) (by decide)]
        have u1 : hv_f h45 = hv_f H := by funext j; unfold hv_f; rw [rH 11 (by omega)]
        have u2 : hv_t h45 = hv_t H := by funext j; unfold hv_t; rw [rH 12 (by omega)]
        have u3 : hv_c h45 = hv_c H := by funext j; unfold hv_c hv_y hv_d; rw [rH 13 (by omega), rH 14 (by omega)]
        refine iv_X_of (F1 := H.1 16) (F2 := h45.1 53) hHF ?_ ?_
        · rw [aP, aR, v1, v2, v3, u1, u2, u3, rF 15 (by decide) (by decide), rH 15 (by omega), rF 16 (by decide) (by decide), ← eX, ← y16]
          apply rr45 <;> decide
        · rw [aP, aR, v1, v2, v3, rF 48 (by decide) (by decide), eF, pr_ne (by decide), pr_re, eX53]
