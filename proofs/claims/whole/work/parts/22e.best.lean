/-! best, costs -/
theorem o_best {n : Nat} {h : PH} (hi : Inv n h) (x y z : Int32) (hz : z = 0 ∨ z = 1) : ∃ r h1 h2, f_X11_best x y z h = some (r, h1) ∧ f_X12_best x y z h1 = some (r, h2) ∧ Inv (n + 1) h2 := by
  obtain ⟨hS, hF, hH, hX, hP, hW, hR, hC⟩ := id hi
  rcases rg_wf x y with ⟨w, f, hw1, hw, hf, rfl, rfl, u1, u2⟩ | ⟨u1, u2⟩
  rotate_left
  · exact ⟨-2, h, h, by simp [f_X11_best, u1, pu_b1], by simp [f_X12_best, u2, pu_b1], inv_up hi⟩
  have e17 := hP.1.1
  have e19 : h.1 43 19 = nI (hv_N h) := by rw [hP.1.2.2]; exact e17
  have hN := hP.1.2.1
  have hP8 := hH.1.2.1
  have hp := Nat.two_pow_pos (hv_N h)
  by_cases h0 : hv_N h = 0
  · refine ⟨-3, h, h, ?_, ?_, inv_up hi⟩
    · unfold f_X11_best
      rw [u1, pu_b1, if_neg (by decide), e17, h0, if_pos (show nI 0 = 0 from rfl)]
    · unfold f_X12_best
      rw [u2, pu_b1, if_neg (by decide), e19, h0, if_pos (show nI 0 = 0 from rfl)]
  have hB := B_lt hH hP (by omega)
  have hn := nD_h hH hX
  have hq := cQ_of hH hX hP
  have hc := cS_of hP
  -- what the best plan from a place costs
  let b : Nat → Nat := fun c => (bs (cP w (hv_N h) f (!decide (z = 0)) (hv_l h) (hv_r h) (yv (hv_D h) c (hv_p h))) (w ^ hv_N h)).1
  have hbl : ∀ c, b c ≤ 1000000 := fun c => bs_le _ _
  obtain ⟨g1, a1, a2, a3, a4, a5⟩ := c_orders (kd := 0) (w := 2 ^ hv_N h - 1) hq hn hH.2.1.1 hB (by omega) (by omega)
  have a1 : f_X11_reckonOrders (nI (2 ^ hv_N h - 1)) 0 h = some ((), g1) := a1
  have g24 : ∀ p q, p < hv_N h → q < hv_N h → g1.1 24 (8 * p + q) = nI (Yd (hv_D h) (hv_p h p) (hv_p h q)) := fun p q hp hqN => by
    rw [a4.1 p q hp hqN]
    unfold Gy
    rw [if_neg (by omega)]
  have hL : ∃ s, lp_f (fun s => lb_X11_best_48 (nI w) (nI f) z s.1 s.2.1 s.2.2.1 s.2.2.2) fu_l ((-9), 1000000, 0, g1) = some s ∧ (s.1 = (if (bs b (hv_P h)).1 < 1000000 then nI (bs b (hv_P h)).2 else -9) ∧ (∀ a, (a < 24 ∨ 33 < a) → s.2.2.2.1 a = h.1 a) ∧ s.2.2.2.2 = h.2) := by
    refine lp_0 (fun i s => s.1 = (if (bs b i).1 < 1000000 then nI (bs b i).2 else -9) ∧ s.2.1 = nI (bs b i).1 ∧ s.2.2.1 = nI i ∧ (∀ a, (a < 25 ∨ a = 26 ∨ 33 < a) → s.2.2.2.1 a = g1.1 a) ∧ s.2.2.2.2 = g1.2) _ (hv_P h) (by omega) ?_ ?_ _ ⟨rfl, rfl, rfl, fun _ _ => rfl, rfl⟩
    · rintro i ⟨s1, s2, s3, g⟩ hi ⟨e0, e1, e2, e3, e4⟩
      left
      obtain rfl : s2 = nI (bs b i).1 := e1
      obtain rfl : s3 = nI i := e2
      have e0 : s1 = (if (bs b i).1 < 1000000 then nI (bs b i).2 else -9) := e0
      have e3 : ∀ a, (a < 25 ∨ a = 26 ∨ 33 < a) → g.1 a = g1.1 a := e3
      have gq : cQ g (hv_P h) (hv_N h) (hv_D h) (hv_p h) := cQ_fr hq (by rw [e3 16 (by omega), a2 16 (by decide) (by decide) (by decide)]) (by rw [e3 17 (by omega), a2 17 (by decide) (by decide) (by decide)]) (by rw [e3 18 (by omega), a2 18 (by decide) (by decide) (by decide)])
      have gc : cS g (hv_N h) (hv_l h) (hv_r h) := cS_fr hc (by rw [e3 17 (by omega), a2 17 (by decide) (by decide) (by decide)]) (by rw [e3 19 (by omega), a2 19 (by decide) (by decide) (by decide)]) (by rw [e3 20 (by omega), a2 20 (by decide) (by decide) (by decide)])
      obtain ⟨k, k1, k2, k3, k4⟩ := c_pyf (f := f) (dv := z) (dk := !decide (z = 0)) hn gq gc hi (fun p q hp hqN => by rw [e3 24 (by omega)]; exact g24 p q hp hqN) (C := hv_B h) (by unfold cW; rw [e3 26 (by omega)]; exact a5) hw1 hw hf hz rfl
      have k1 : f_X11_plannedYardsFrom (nI i) (nI w) (nI f) z g = some (nI (b i), k) := k1
      have b1 := hbl i
      have b2 := bs_le b i
      have bsn : bs b (i + 1) = if b i < (bs b i).1 then (b i, i) else bs b i := rfl
      have g10 : g.1 10 0 = nI (hv_P h) := by rw [e3 10 (by omega), a2 10 (by decide) (by decide) (by decide)]; exact hH.1.1
      by_cases hlt : b i < (bs b i).1
      · refine ⟨(nI i, nI (b i), nI (i + 1), k), ?_, ?_, ?_, rfl, fun a ha => by show k.1 a = _; rw [k2 a ha]; exact e3 a ha, by show k.2 = _; rw [k3]; exact e4⟩
        · show lb_X11_best_48 (nI w) (nI f) z s1 (nI (bs b i).1) (nI i) g = _
          unfold lb_X11_best_48
          rw [g10, if_neg (nI_ge hi (by omega)), k1, pu_b2, if_neg (nI_ge hlt (by omega)), pu_lt, ← nI_succ]
        · show nI i = _
          rw [bsn, if_pos hlt]
          show nI i = if b i < 1000000 then nI i else -9
          rw [if_pos (by omega)]
        · show nI (b i) = _
          rw [bsn, if_pos hlt]
      · refine ⟨(s1, nI (bs b i).1, nI (i + 1), k), ?_, ?_, ?_, rfl, fun a ha => by show k.1 a = _; rw [k2 a ha]; exact e3 a ha, by show k.2 = _; rw [k3]; exact e4⟩
        · show lb_X11_best_48 (nI w) (nI f) z s1 (nI (bs b i).1) (nI i) g = _
          unfold lb_X11_best_48
          rw [g10, if_neg (nI_ge hi (by omega)), k1, pu_b2, if_pos (nI_le (by omega) (by omega)), pu_lt, ← nI_succ]
        · show s1 = _
          rw [bsn, if_neg hlt]
          exact e0
        · show nI (bs b i).1 = _
          rw [bsn, if_neg hlt]
    · rintro ⟨s1, s2, s3, g⟩ ⟨e0, e1, e2, e3, e4⟩
      obtain rfl : s3 = nI (hv_P h) := e2
      have e3 : ∀ a, (a < 25 ∨ a = 26 ∨ 33 < a) → g.1 a = g1.1 a := e3
      refine ⟨(s1, s2, nI (hv_P h), g), ?_, e0, fun a ha => ?_, by show g.2 = _; rw [show g.2 = g1.2 from e4, a3]⟩
      · show lb_X11_best_48 (nI w) (nI f) z s1 s2 (nI (hv_P h)) g = _
        unfold lb_X11_best_48
        rw [e3 10 (by omega), a2 10 (by decide) (by decide) (by decide), hH.1.1, if_pos (nI_le (Nat.le_refl _) (by omega))]
      · show g.1 a = _
        rw [e3 a (by omega), a2 a (by omega) (by omega) (by omega)]
  obtain ⟨s, s1, s2, s3, s4⟩ := hL
  generalize hg : s.2.2.2 = g at *
  have e43 : g.1 43 = h.1 43 := s3 43 (by omega)
  have gB : g.1 43 2 = nI (hv_B h) := by rw [e43, hH.2.1.2.2]; exact hH.2.1.1
  have hM : ∃ t, lp_f (fun s => lb_X12_best_38 (nI w) (nI f) z (nI (hv_B h)) s.1 s.2.1 s.2.2.1 s.2.2.2) fu_l ((-9), 10000000, 0, g) = some t ∧ (t.1 = (if (bs b (hv_P h)).1 < 1000000 then nI (bs b (hv_P h)).2 else -9) ∧ (∀ a, a ≠ 43 → a ≠ 63 → a ≠ 64 → t.2.2.2.1 a = g.1 a) ∧ (∀ j, j ≠ 2 → j ≠ 33 → j ≠ 34 → t.2.2.2.1 43 j = g.1 43 j) ∧ t.2.2.2.2 = g.2) := by
    refine lp_0 (fun i s => s.1 = (if (bs b i).1 < 1000000 then nI (bs b i).2 else -9) ∧ s.2.1 = nI (cv (bs b i).1) ∧ s.2.2.1 = nI i ∧ (∀ a, a ≠ 43 → a ≠ 63 → a ≠ 64 → s.2.2.2.1 a = g.1 a) ∧ (∀ j, j ≠ 2 → j ≠ 33 → j ≠ 34 → s.2.2.2.1 43 j = g.1 43 j) ∧ s.2.2.2.2 = g.2) _ (hv_P h) (by omega) ?_ ?_ _ ⟨rfl, rfl, rfl, fun _ _ _ _ => rfl, fun _ _ _ _ => rfl, rfl⟩
    · rintro i ⟨v1, v2, v3, m⟩ hi ⟨e0, e1, e2, e3, e5, e4⟩
      left
      obtain rfl : v2 = nI (cv (bs b i).1) := e1
      obtain rfl : v3 = nI i := e2
      have e0 : v1 = (if (bs b i).1 < 1000000 then nI (bs b i).2 else -9) := e0
      have e3 : ∀ a, a ≠ 43 → a ≠ 63 → a ≠ 64 → m.1 a = g.1 a := e3
      have e5 : ∀ j, j ≠ 2 → j ≠ 33 → j ≠ 34 → m.1 43 j = g.1 43 j := e5
      have e4 : m.2 = g.2 := e4
      have mq : mQ (ph_i m 43 2 (nI i)) (hv_P h) (hv_N h) i (hv_D h) (hv_p h) := by
        have q0 := mQ_of hH hX hP hB
        refine ⟨mD_fr q0.1 (by rw [pr_ne (by decide), e3 53 (by decide) (by decide) (by decide), s3 53 (by omega)]), hN, ?_, fun p hp => ?_, by rw [pr_eq, if_pos rfl], hi⟩
        · rw [pr_eq, if_neg (by decide), e5 19 (by decide) (by decide) (by decide), e43]; exact e19
        · rw [pr_ne (by decide), e3 54 (by decide) (by decide) (by decide), s3 54 (by omega)]
          exact q0.2.2.2.1 p hp
      have mr : mR (ph_i m 43 2 (nI i)) (hv_N h) (hv_l h) (hv_r h) := mR_fr (mR_of hP) (by rw [pr_ne (by decide), e3 55 (by decide) (by decide) (by decide), s3 55 (by omega)]) (by rw [pr_ne (by decide), e3 56 (by decide) (by decide) (by decide), s3 56 (by omega)])
      obtain ⟨k, k1, k2, k3, k4, k5⟩ := m_layP (f := f) (dv := z) (dk := !decide (z = 0)) mq mr hw1 hw hf rfl
      have k34 : k.1 43 34 = nI (cv (b i)) := k5.1
      have b1 := hbl i
      have b2 := bs_le b i
      have c1 := @cv_le (b i)
      have c2 := @cv_le (bs b i).1
      have bsn : bs b (i + 1) = if b i < (bs b i).1 then (b i, i) else bs b i := rfl
      have fr1 : ∀ a, a ≠ 43 → a ≠ 63 → a ≠ 64 → k.1 a = g.1 a := fun a x1 x2 x3 => by rw [k2 a x1 x2 x3, pr_ne x1]; exact e3 a x1 x2 x3
      have fr2 : ∀ j, j ≠ 2 → j ≠ 33 → j ≠ 34 → k.1 43 j = g.1 43 j := fun j x1 x2 x3 => by rw [k3 j x2 x3, pr_eq, if_neg x1]; exact e5 j x1 x2 x3
      have fr3 : k.2 = g.2 := by rw [k4]; exact e4
      have m1 : m.1 43 1 = nI (hv_P h) := by rw [e5 1 (by decide) (by decide) (by decide), e43, hH.1.2.2]; exact hH.1.1
      by_cases hlt : b i < (bs b i).1
      · have hcl : cv (b i) < cv (bs b i).1 := by
          unfold cv
          rw [if_pos (show b i < 1000000 by omega)]
          split <;> omega
        refine ⟨(nI i, nI (cv (b i)), nI (i + 1), k), ?_, ?_, ?_, rfl, fr1, fr2, fr3⟩
        · show lb_X12_best_38 (nI w) (nI f) z (nI (hv_B h)) v1 (nI (cv (bs b i).1)) (nI i) m = _
          unfold lb_X12_best_38
          rw [m1, if_neg (nI_ge hi (by omega)), pu_lt, k1, pu_b2, k34, if_neg (nI_ge hcl (by omega)), m_less _ _ (by omega) (by omega), pu_b1, Nat.min_eq_right (by omega), pu_lt, ← nI_succ]
        · show nI i = _
          rw [bsn, if_pos hlt]
          show nI i = if b i < 1000000 then nI i else -9
          rw [if_pos (by omega)]
        · show nI (cv (b i)) = _
          rw [bsn, if_pos hlt]
      · have hcl : cv (bs b i).1 ≤ cv (b i) := cv_mono (by omega)
        refine ⟨(v1, nI (cv (bs b i).1), nI (i + 1), k), ?_, ?_, ?_, rfl, fr1, fr2, fr3⟩
        · show lb_X12_best_38 (nI w) (nI f) z (nI (hv_B h)) v1 (nI (cv (bs b i).1)) (nI i) m = _
          unfold lb_X12_best_38
          rw [m1, if_neg (nI_ge hi (by omega)), pu_lt, k1, pu_b2, k34, if_pos (nI_le hcl (by omega)), m_less _ _ (by omega) (by omega), pu_b1, Nat.min_eq_left (by omega), pu_lt, ← nI_succ]
        · show v1 = _
          rw [bsn, if_neg hlt]
          exact e0
        · show nI (cv (bs b i).1) = _
          rw [bsn, if_neg hlt]
    · rintro ⟨v1, v2, v3, m⟩ ⟨e0, e1, e2, e3, e5, e4⟩
      obtain rfl : v3 = nI (hv_P h) := e2
      have e5 : ∀ j, j ≠ 2 → j ≠ 33 → j ≠ 34 → m.1 43 j = g.1 43 j := e5
      refine ⟨(v1, v2, nI (hv_P h), m), ?_, e0, e3, e5, e4⟩
      show lb_X12_best_38 (nI w) (nI f) z (nI (hv_B h)) v1 v2 (nI (hv_P h)) m = _
      unfold lb_X12_best_38
      rw [e5 1 (by decide) (by decide) (by decide), e43, hH.1.2.2, hH.1.1, if_pos (nI_le (Nat.le_refl _) (by omega))]
  obtain ⟨t, t1, t2, t3, t4, t5⟩ := hM
  refine ⟨(if (bs b (hv_P h)).1 < 1000000 then nI (bs b (hv_P h)).2 else -9), g, ph_i t.2.2.2 43 2 (nI (hv_B h)), ?_, ?_, ?_⟩
  · unfold f_X11_best f_X6_all
    rw [u1, pu_b1, if_neg (by decide), e17, if_neg (nI_ne0 (by omega) (by omega)), sh_all hN, pu_b1, a1, pu_b2, s1, pu_b1, s2, hg]
  · unfold f_X12_best
    rw [u2, pu_b1, if_neg (by decide), e43, e19, if_neg (nI_ne0 (by omega) (by omega)), ← e43, gB, pu_lt, t1, pu_b1, t2, pu_lt]
  · refine inv_pl hi s3 s4 (k := ph_i t.2.2.2 43 2 (nI (hv_B h))) (fun a x1 x2 x3 => by rw [pr_ne x1]; exact t3 a x1 x2 x3) (fun j x2 x3 => ?_) t5
    rw [pr_eq]
    by_cases hj : j = 2
    · rw [if_pos hj, hj]
      exact gB.symm
    · rw [if_neg hj]
      exact t4 j hj x2 x3
/-- class: a run is shut or opened, whatever the reference holds -/
theorem s_close2 {g : PH} {P R k : Nat} {f t y d : Nat → Nat} {v : Int32} (hg : hr_c g P R f t y d) (hk : k < R) (hv : v = 0 ∨ v = 1) : f_X3_close (nI k) v g = some ((), ph_r (ph_i g 15 k v) 16 (mt (g.1 16) (fw P (rn f t (fun k => 1000 * y k + d k) (fun j => (ph_i g 15 k v).1 15 j == 0) R) P))) := by
  have k14 : k < 14 := by have := hg.2.2.2.1; omega
  have hck : (nI k).toNatClampNeg = k := nI_clamp (by omega)
  have hgb : gb_i (β := Unit × PH) v = id := by
    funext K
    unfold gb_i
    rw [if_pos hv]
    rfl
  unfold f_X3_close
  rw [pu_gn k14 (by decide), hgb, hck]
  show lt_b _ _ = _
  rw [pu_lt, s_reckon (hr_c_c hg (pr_ne (by decide)) (pr_ne (by decide)) (pr_ne (by decide)) (pr_ne (by decide)) (pr_ne (by decide))), pu_b2, pr_ne (by decide)]
theorem o_costs {n : Nat} {h : PH} (hi : Inv n h) (x y z u : Int32) (hu : u = 0 ∨ u = 1) : ∃ r h1 h2, f_X11_costs x y z u h = some (r, h1) ∧ f_X12_costs x y z u h1 = some (r, h2) ∧ Inv (n + 1) h2 := by
  obtain ⟨hS, hF, hH, hX, hP, hW, hR, hC⟩ := id hi
  rcases rg_rn hH x with ⟨k, hk, hk14, rfl, w1, w2⟩ | ⟨w1, w2⟩
  rotate_left
  · exact ⟨-1, h, h, by simp [f_X11_costs, w1 h rfl, pu_b1], by simp [f_X12_costs, w2 h rfl, pu_b1], inv_up hi⟩
  rcases rg_wf y z with ⟨w, f, hw1, hw, hf, rfl, rfl, u1, u2⟩ | ⟨u1, u2⟩
  rotate_left
  · exact ⟨-2, h, h, by simp [f_X11_costs, w1 h rfl, u1, pu_b1], by simp [f_X12_costs, w2 h rfl, u2, pu_b1], inv_up hi⟩
  have e17 := hP.1.1
  have e19 : h.1 43 19 = nI (hv_N h) := by rw [hP.1.2.2]; exact e17
  have hN := hP.1.2.1
  have hP8 := hH.1.2.1
  by_cases h0 : hv_N h = 0
  · refine ⟨-3, h, h, ?_, ?_, inv_up hi⟩
    · unfold f_X11_costs
      rw [w1 h rfl, pu_b1, if_neg (by decide), u1, pu_b1, if_neg (by decide), e17, h0, if_pos (show nI 0 = 0 from rfl)]
    · unfold f_X12_costs
      rw [w2 h rfl, pu_b1, if_pos rfl, u2, pu_b1, if_neg (by decide), e19, h0, if_pos (show nI 0 = 0 from rfl)]
  have hB := B_lt hH hP (by omega)
  have hck : (nI k).toNatClampNeg = k := nI_clamp (by omega)
  obtain ⟨hrc, hrm⟩ := hr_of hH
  obtain ⟨hf1, hf2⟩ := hc_of hH
  have k15 := (hH.2.2.2 k hk).2.2.2.2.2.1
  have k48 := (hH.2.2.2 k hk).2.2.2.2.2.2
  have hn := nD_h hH hX
  -- the house with the run shut
  let o2 : Nat → Bool := fun j => (ph_i h 15 k 1).1 15 j == 0
  let D2 : Nat → Nat → Nat := fw (hv_P h) (rn (hv_f h) (hv_t h) (hv_c h) o2 (hv_R h)) (hv_P h)
  obtain ⟨d1, d2, d3⟩ := fw_ivd (o := o2) hP8 hf1 hf2
  have hn2 : nD (hv_P h) D2 := nD_of hH (op := op_ (hv_R h) (hv_f h) (hv_t h) o2) (fun k a b ho => ⟨ho.1, op_sym ho⟩) d1
  -- class: now
  obtain ⟨g1, a1, a2, a3, a4⟩ := c_py (f := f) (dv := u) (dk := !decide (u = 0)) hn (cQ_of hH hX hP) (cS_of hP) hH.2.1.1 hB hw1 hw hf hu rfl
  have rc1 : hr_c g1 (hv_P h) (hv_R h) (hv_f h) (hv_t h) (hv_y h) (hv_d h) := hr_c_c hrc (a2 10 (by omega)) (a2 11 (by omega)) (a2 12 (by omega)) (a2 13 (by omega)) (a2 14 (by omega))
  -- class: shut
  have cl1 := s_close2 (k := k) (v := 1) rc1 hk (Or.inr rfl)
  generalize hg2 : ph_r (ph_i g1 15 k 1) 16 (mt (g1.1 16) (fw (hv_P h) (rn (hv_f h) (hv_t h) (fun k => 1000 * hv_y h k + hv_d h k) (fun j => (ph_i g1 15 k 1).1 15 j == 0) (hv_R h)) (hv_P h))) = g2 at cl1
  have f1 : ∀ a, a ≠ 15 → a ≠ 16 → g2.1 a = g1.1 a := fun a x1 x2 => by rw [← hg2, pr_rn x2, pr_ne x1]
  have f2 : g2.2 = g1.2 := by rw [← hg2]; rfl
  have f15 : ∀ j, g2.1 15 j = if j = k then 1 else h.1 15 j := fun j => by rw [← hg2, pr_rn (by decide), pr_eq, a2 15 (by omega)]
  have eo : (fun j => (ph_i g1 15 k 1).1 15 j == 0) = o2 := by
    funext j
    show _ = ((ph_i h 15 k 1).1 15 j == 0)
    rw [pr_eq, pr_eq, a2 15 (by omega)]
  have f16 : g2.1 16 = mt (g1.1 16) D2 := by rw [← hg2, pr_re, eo]
  have cd2 : cD g2 (hv_P h) D2 := ⟨hP8, fun a b ha hb => ⟨by rw [f16, mt_at2 (by omega) (by omega)], hn2.1 a b ha hb⟩⟩
  have q2 : cQ g2 (hv_P h) (hv_N h) D2 (hv_p h) := by
    refine ⟨cd2, hN, ?_, fun p hp => ?_⟩
    · rw [f1 17 (by decide) (by decide), a2 17 (by omega)]; exact e17
    · rw [f1 18 (by decide) (by decide), a2 18 (by omega)]; exact ⟨(hP.2 p hp).1.1, (hP.2 p hp).1.2.1⟩
  have s2 : cS g2 (hv_N h) (hv_l h) (hv_r h) := cS_fr (cS_of hP) (by rw [f1 17 (by decide) (by decide), a2 17 (by omega)]) (by rw [f1 19 (by decide) (by decide), a2 19 (by omega)]) (by rw [f1 20 (by decide) (by decide), a2 20 (by omega)])
  -- class: then
  obtain ⟨g3, b1, b2, b3, b4⟩ := c_py (f := f) (dv := u) (dk := !decide (u = 0)) hn2 q2 s2 (by rw [f1 10 (by decide) (by decide), a2 10 (by omega)]; exact hH.2.1.1) hB hw1 hw hf hu rfl
  have rc3 : hr_c g3 (hv_P h) (hv_R h) (hv_f h) (hv_t h) (hv_y h) (hv_d h) := hr_c_c hrc (by rw [b2 10 (by omega), f1 10 (by decide) (by decide), a2 10 (by omega)]) (by rw [b2 11 (by omega), f1 11 (by decide) (by decide), a2 11 (by omega)]) (by rw [b2 12 (by omega), f1 12 (by decide) (by decide), a2 12 (by omega)]) (by rw [b2 13 (by omega), f1 13 (by decide) (by decide), a2 13 (by omega)]) (by rw [b2 14 (by omega), f1 14 (by decide) (by decide), a2 14 (by omega)])
  have g115 : g1.1 15 k = h.1 15 k := by rw [a2 15 (by omega)]
  -- class: as it was
  have cl2 := s_close2 (k := k) (v := h.1 15 k) rc3 hk k15
  generalize hg4 : ph_r (ph_i g3 15 k (h.1 15 k)) 16 (mt (g3.1 16) (fw (hv_P h) (rn (hv_f h) (hv_t h) (fun k => 1000 * hv_y h k + hv_d h k) (fun j => (ph_i g3 15 k (h.1 15 k)).1 15 j == 0) (hv_R h)) (hv_P h))) = g4 at cl2
  have r1 : ∀ a, (a < 24 ∨ 33 < a) → a ≠ 15 → a ≠ 16 → g4.1 a = h.1 a := fun a ha x1 x2 => by rw [← hg4, pr_rn x2, pr_ne x1, b2 a ha, f1 a x1 x2, a2 a ha]
  have r2 : g4.2 = h.2 := by
    rw [← hg4]
    show g3.2 = _
    rw [b3, f2, a3]
  have r15 : g4.1 15 = h.1 15 := by
    funext j
    rw [← hg4, pr_rn (by decide), pr_eq, b2 15 (by omega), f15]
    by_cases hj : j = k
    · rw [if_pos hj, hj]
    · rw [if_neg hj, if_neg hj]
  have r16 : g4.1 16 = mt (g3.1 16) (fw (hv_P h) (rn (hv_f h) (hv_t h) (hv_c h) (fun j => g4.1 15 j == 0) (hv_R h)) (hv_P h)) := by
    have : (fun j => (ph_i g3 15 k (h.1 15 k)).1 15 j == 0) = fun j => g4.1 15 j == 0 := by
      funext j
      rw [← hg4, pr_rn (by decide)]
    rw [← this, ← hg4, pr_re]
  -- reference: now
  have e43 : g4.1 43 = h.1 43 := r1 43 (by omega) (by decide) (by decide)
  have m4q : mQ g4 (hv_P h) (hv_N h) (hv_B h) (hv_D h) (hv_p h) := mQ_fr (mQ_of hH hX hP hB) (r1 53 (by omega) (by decide) (by decide)) (r1 54 (by omega) (by decide) (by decide)) (by rw [e43]) (by rw [e43])
  have m4r : mR g4 (hv_N h) (hv_l h) (hv_r h) := mR_fr (mR_of hP) (r1 55 (by omega) (by decide) (by decide)) (r1 56 (by omega) (by decide) (by decide))
  obtain ⟨g5, p1, p2, p3, p4, p5⟩ := m_layP (f := f) (dv := u) (dk := !decide (u = 0)) m4q m4r hw1 hw hf rfl
  have E5 : ∀ a, (a < 24 ∨ 33 < a) → a ≠ 15 → a ≠ 16 → a ≠ 43 → a ≠ 63 → a ≠ 64 → g5.1 a = h.1 a := fun a ha x1 x2 x3 x4 x5 => by rw [p2 a x3 x4 x5]; exact r1 a ha x1 x2
  have E5' : ∀ j, j ≠ 33 → j ≠ 34 → g5.1 43 j = h.1 43 j := fun j x1 x2 => by rw [p3 j x1 x2, e43]
  -- reference: shut
  have rm5 : hr_m (ph_i g5 48 k 1) (hv_P h) (hv_R h) (hv_f h) (hv_t h) (hv_y h) (hv_d h) := hr_m_c hrm (by rw [pr_ne (by decide)]; exact E5' 1 (by decide) (by decide)) (by rw [pr_ne (by decide)]; exact E5' 3 (by decide) (by decide)) (by rw [pr_ne (by decide)]; exact E5 44 (by omega) (by decide) (by decide) (by decide) (by decide) (by decide)) (by rw [pr_ne (by decide)]; exact E5 45 (by omega) (by decide) (by decide) (by decide) (by decide) (by decide)) (by rw [pr_ne (by decide)]; exact E5 46 (by omega) (by decide) (by decide) (by decide) (by decide) (by decide)) (by rw [pr_ne (by decide)]; exact E5 47 (by omega) (by decide) (by decide) (by decide) (by decide) (by decide))
  have lay1 := m_layFar rm5
  generalize hg6 : ph_r (ph_i g5 48 k 1) 53 (mt ((ph_i g5 48 k 1).1 53) (rr (hv_P h) (hv_R h) (hv_f h) (hv_t h) (fun k => 1000 * hv_y h k + hv_d h k) (fun j => (ph_i g5 48 k 1).1 48 j == 0) (hv_P h - 1))) = g6 at lay1
  have t1 : ∀ a, a ≠ 48 → a ≠ 53 → g6.1 a = g5.1 a := fun a x1 x2 => by rw [← hg6, pr_rn x2, pr_ne x1]
  have t2 : g6.2 = g5.2 := by rw [← hg6]; rfl
  have t48 : ∀ j, g6.1 48 j = if j = k then 1 else h.1 48 j := fun j => by rw [← hg6, pr_rn (by decide), pr_eq, E5 48 (by omega) (by decide) (by decide) (by decide) (by decide) (by decide)]
  have o48 : ∀ j, j < hv_R h → ((ph_i g5 48 k 1).1 48 j == 0) = o2 j := by
    intro j hj
    show _ = ((ph_i h 15 k 1).1 15 j == 0)
    rw [pr_eq, pr_eq, E5 48 (by omega) (by decide) (by decide) (by decide) (by decide) (by decide), (hH.2.2.2 j hj).2.2.2.2.2.2]
  have t53 : g6.1 53 = mt ((ph_i g5 48 k 1).1 53) (rr (hv_P h) (hv_R h) (hv_f h) (hv_t h) (hv_c h) o2 (hv_P h - 1)) := by
    rw [← rr_c o48, ← hg6, pr_re]
  have md2 : mD g6 (hv_P h) D2 := ⟨hP8, fun a b ha hb => ⟨by
    rw [t53, mt_at2 (by omega) (by omega), rr_same hP8 hf1 hf2], hn2.1 a b ha hb⟩⟩
  have m6q : mQ g6 (hv_P h) (hv_N h) (hv_B h) D2 (hv_p h) := by
    have q0 := mQ_of hH hX hP hB
    refine ⟨md2, hN, ?_, fun p hp => ?_, ?_, hB⟩
    · rw [t1 43 (by decide) (by decide), E5' 19 (by decide) (by decide)]; exact e19
    · rw [t1 54 (by decide) (by decide), E5 54 (by omega) (by decide) (by decide) (by decide) (by decide) (by decide)]; exact q0.2.2.2.1 p hp
    · rw [t1 43 (by decide) (by decide), E5' 2 (by decide) (by decide)]; exact q0.2.2.2.2.1
  have m6r : mR g6 (hv_N h) (hv_l h) (hv_r h) := mR_fr (mR_of hP) (by rw [t1 55 (by decide) (by decide), E5 55 (by omega) (by decide) (by decide) (by decide) (by decide) (by decide)]) (by rw [t1 56 (by decide) (by decide), E5 56 (by omega) (by decide) (by decide) (by decide) (by decide) (by decide)])
  obtain ⟨g7, v1, v2, v3, v4, v5⟩ := m_layP (f := f) (dv := u) (dk := !decide (u = 0)) m6q m6r hw1 hw hf rfl
  have E7 : ∀ a, (a < 24 ∨ 33 < a) → a ≠ 15 → a ≠ 16 → a ≠ 43 → a ≠ 48 → a ≠ 53 → a ≠ 63 → a ≠ 64 → g7.1 a = h.1 a := fun a ha x1 x2 x3 x4 x5 x6 x7 => by rw [v2 a x3 x6 x7, t1 a x4 x5]; exact E5 a ha x1 x2 x3 x6 x7
  have E7' : ∀ j, j ≠ 33 → j ≠ 34 → g7.1 43 j = h.1 43 j := fun j x1 x2 => by rw [v3 j x1 x2, t1 43 (by decide) (by decide)]; exact E5' j x1 x2
  -- reference: as it was
  have rm7 : hr_m (ph_i g7 48 k (h.1 48 k)) (hv_P h) (hv_R h) (hv_f h) (hv_t h) (hv_y h) (hv_d h) := hr_m_c hrm (by rw [pr_ne (by decide)]; exact E7' 1 (by decide) (by decide)) (by rw [pr_ne (by decide)]; exact E7' 3 (by decide) (by decide)) (by rw [pr_ne (by decide)]; exact E7 44 (by omega) (by decide) (by decide) (by decide) (by decide) (by decide) (by decide) (by decide)) (by rw [pr_ne (by decide)]; exact E7 45 (by omega) (by decide) (by decide) (by decide) (by decide) (by decide) (by decide) (by decide)) (by rw [pr_ne (by decide)]; exact E7 46 (by omega) (by decide) (by decide) (by decide) (by decide) (by decide) (by decide) (by decide)) (by rw [pr_ne (by decide)]; exact E7 47 (by omega) (by decide) (by decide) (by decide) (by decide) (by decide) (by decide) (by decide))
  have lay2 := m_layFar rm7
  generalize hg8 : ph_r (ph_i g7 48 k (h.1 48 k)) 53 (mt ((ph_i g7 48 k (h.1 48 k)).1 53) (rr (hv_P h) (hv_R h) (hv_f h) (hv_t h) (fun k => 1000 * hv_y h k + hv_d h k) (fun j => (ph_i g7 48 k (h.1 48 k)).1 48 j == 0) (hv_P h - 1))) = g8 at lay2
  have E8 : ∀ a, (a < 24 ∨ 33 < a) → a ≠ 15 → a ≠ 16 → a ≠ 43 → a ≠ 48 → a ≠ 53 → a ≠ 63 → a ≠ 64 → g8.1 a = h.1 a := fun a ha x1 x2 x3 x4 x5 x6 x7 => by rw [← hg8, pr_rn x5, pr_ne x4]; exact E7 a ha x1 x2 x3 x4 x5 x6 x7
  have E8' : ∀ j, j ≠ 33 → j ≠ 34 → g8.1 43 j = h.1 43 j := fun j x1 x2 => by rw [← hg8, pr_rn (by decide), pr_ne (by decide)]; exact E7' j x1 x2
  have E15 : g8.1 15 = h.1 15 := by rw [← hg8, pr_rn (by decide), pr_ne (by decide), v2 15 (by decide) (by decide) (by decide), t1 15 (by decide) (by decide), p2 15 (by decide) (by decide) (by decide)]; exact r15
  have E16 : g8.1 16 = g4.1 16 := by rw [← hg8, pr_rn (by decide), pr_ne (by decide), v2 16 (by decide) (by decide) (by decide), t1 16 (by decide) (by decide), p2 16 (by decide) (by decide) (by decide)]
  have E48 : g8.1 48 = h.1 48 := by
    funext j
    rw [← hg8, pr_rn (by decide), pr_eq, v2 48 (by decide) (by decide) (by decide), t48]
    by_cases hj : j = k
    · rw [if_pos hj, hj]
    · rw [if_neg hj, if_neg hj]
  have E8b : ∀ a, 71 ≤ a → g8.1 a = h.1 a := fun a ha => E8 a (by omega) (by omega) (by omega) (by omega) (by omega) (by omega) (by omega) (by omega)
  have E82 : g8.2 = h.2 := by
    rw [← hg8]
    show g7.2 = _
    rw [v4, t2, p4, r2]
  have E822 : g8.2.2 = h.2.2 := by rw [E82]
  have q34 : g7.1 43 34 = nI (cv (bs (cP w (hv_N h) f (!decide (u = 0)) (hv_l h) (hv_r h) (yv D2 (hv_B h) (hv_p h))) (w ^ hv_N h)).1) := v5.1
  have q34' : g8.1 43 34 = g7.1 43 34 := by rw [← hg8, pr_rn (by decide), pr_ne (by decide)]
  have q34'' : g5.1 43 34 = nI (cv (bs (cP w (hv_N h) f (!decide (u = 0)) (hv_l h) (hv_r h) (yv (hv_D h) (hv_B h) (hv_p h))) (w ^ hv_N h)).1) := p5.1
  have hA := bs_le (cP w (hv_N h) f (!decide (u = 0)) (hv_l h) (hv_r h) (yv (hv_D h) (hv_B h) (hv_p h))) (w ^ hv_N h)
  have hA2 := bs_le (cP w (hv_N h) f (!decide (u = 0)) (hv_l h) (hv_r h) (yv D2 (hv_B h) (hv_p h))) (w ^ hv_N h)
  have inv : Inv (n + 1) g8 := by
    have nH : iv_H g8 := by
      apply fr_H hH <;> first | exact E15 | exact E48 | exact E8' _ (by decide) (by decide) | exact E8 _ (by omega) (by decide) (by decide) (by decide) (by decide) (by decide) (by decide) (by decide)
    refine ⟨?_, ⟨?_, ?_⟩, nH, ?_, ?_, ?_, ?_, fr_C hC E8b E822⟩
    · apply fr_S hS <;> exact E8 _ (by omega) (by decide) (by decide) (by decide) (by decide) (by decide) (by decide) (by decide)
    · rw [E8 0 (by omega) (by decide) (by decide) (by decide) (by decide) (by decide) (by decide) (by decide), E8' 0 (by decide) (by decide)]; exact hF.1
    · rw [E8 42 (by omega) (by decide) (by decide) (by decide) (by decide) (by decide) (by decide) (by decide), E8' 44 (by decide) (by decide)]; exact hF.2
    · have E10 := E8 10 (by omega) (by decide) (by decide) (by decide) (by decide) (by decide) (by decide) (by decide)
      have E11 := E8 11 (by omega) (by decide) (by decide) (by decide) (by decide) (by decide) (by decide) (by decide)
      have E12 := E8 12 (by omega) (by decide) (by decide) (by decide) (by decide) (by decide) (by decide) (by decide)
      have E13 := E8 13 (by omega) (by decide) (by decide) (by decide) (by decide) (by decide) (by decide) (by decide)
      have E14 := E8 14 (by omega) (by decide) (by decide) (by decide) (by decide) (by decide) (by decide) (by decide)
      have p1 : hv_P g8 = hv_P h := by unfold hv_P; rw [E10]
      have p2 : hv_R g8 = hv_R h := by unfold hv_R; rw [E10]
      have p3 : hv_f g8 = hv_f h := by funext j; unfold hv_f; rw [E11]
      have p4 : hv_t g8 = hv_t h := by funext j; unfold hv_t; rw [E12]
      have p5 : hv_c g8 = hv_c h := by funext j; unfold hv_c hv_y hv_d; rw [E13, E14]
      refine iv_X_of (F1 := g3.1 16) (F2 := (ph_i g7 48 k (h.1 48 k)).1 53) nH ?_ ?_
      · rw [p1, p2, p3, p4, p5, E16, r16, E15, r15]
      · have : (fun j => (ph_i g7 48 k (h.1 48 k)).1 48 j == 0) = fun j => g8.1 48 j == 0 := by
          funext j
          rw [← hg8, pr_rn (by decide)]
        rw [p1, p2, p3, p4, p5, ← this, ← hg8, pr_re]
    · apply fr_P hP <;> first | exact E8' _ (by decide) (by decide) | exact E8 _ (by omega) (by decide) (by decide) (by decide) (by decide) (by decide) (by decide) (by decide) | exact congrFun (E8 _ (by omega) (by decide) (by decide) (by decide) (by decide) (by decide) (by decide) (by decide)) _
    · apply fr_W hW <;> first | exact E8b | exact E822 | exact E8' _ (by decide) (by decide) | exact E8 _ (by omega) (by decide) (by decide) (by decide) (by decide) (by decide) (by decide) (by decide) | exact congrFun (E8 _ (by omega) (by decide) (by decide) (by decide) (by decide) (by decide) (by decide) (by decide)) _
    · apply fr_R hR <;> first | exact E8' _ (by decide) (by decide) | exact E8 _ (by omega) (by decide) (by decide) (by decide) (by decide) (by decide) (by decide) (by decide) | exact congrFun (E8 _ (by omega) (by decide) (by decide) (by decide) (by decide) (by decide) (by decide) (by decide)) _
  have hgb : ∀ {β : Type} {K : Option β}, gb_i (h.1 48 k) K = K := by
    intro β K
    unfold gb_i
    rw [if_pos (by rw [k48]; exact k15)]
  have g5k : g5.1 48 k = h.1 48 k := by rw [E5 48 (by omega) (by decide) (by decide) (by decide) (by decide) (by decide)]
  generalize (bs (cP w (hv_N h) f (!decide (u = 0)) (hv_l h) (hv_r h) (yv (hv_D h) (hv_B h) (hv_p h))) (w ^ hv_N h)).1 = A at *
  generalize (bs (cP w (hv_N h) f (!decide (u = 0)) (hv_l h) (hv_r h) (yv D2 (hv_B h) (hv_p h))) (w ^ hv_N h)).1 = A2 at *
  have cA := @cv_le A
  have cA2 := @cv_le A2
  have cl : f_X11_costs (nI k) (nI w) (nI f) u h = if (1000000 : Int32) ≤ nI A then some ((-9), g4) else (if nI A2 < 1000000 then some (nI A2 - nI A, g4) else some ((-9), g4)) := by
    unfold f_X11_costs
    rw [w1 h rfl, pu_b1, if_neg (by decide), u1, pu_b1, if_neg (by decide), e17, if_neg (nI_ne0 (by omega) (by omega)), a1, pu_b2, pu_gn hk14 (by decide), hck, g115, pu_lt, cl1, pu_b2, b1, pu_b2, cl2, pu_b2]
  have ml : f_X12_costs (nI k) (nI w) (nI f) u g4 = if (10000000 : Int32) ≤ nI (cv A) then some ((-9), g8) else (if nI (cv A2) < 10000000 then some (nI (cv A2) - nI (cv A), g8) else some ((-9), g8)) := by
    unfold f_X12_costs
    rw [w2 g4 (by rw [e43]), pu_b1, if_pos rfl, u2, pu_b1, if_neg (by decide), e43, e19, if_neg (nI_ne0 (by omega) (by omega)), p1, pu_b2, q34'', pu_lt, pu_gn hk14 (by decide), hck, g5k, pu_lt, pu_gn hk14 (by decide), pu_lt, lay1, pu_b2, v1, pu_b2, pu_gn hk14 (by decide), hgb, pu_lt, lay2, pu_b2, q34', q34]
  by_cases qA : A < 1000000
  · have vA : cv A = A := if_pos qA
    rw [if_neg (show ¬ (1000000 : Int32) ≤ nI A from nI_ge (b := 1000000) qA (by decide))] at cl
    rw [vA, if_neg (show ¬ (10000000 : Int32) ≤ nI A from nI_ge (b := 10000000) (by omega) (by decide))] at ml
    by_cases qB : A2 < 1000000
    · have vB : cv A2 = A2 := if_pos qB
      refine ⟨nI A2 - nI A, g4, g8, ?_, ?_, inv⟩
      · rw [cl, if_pos (show nI A2 < 1000000 from nI_lt (b := 1000000) qB (by decide))]
      · rw [ml, vB, if_pos (show nI A2 < 10000000 from nI_lt (b := 10000000) (by omega) (by decide))]
    · have vB : cv A2 = 10000000 := if_neg qB
      refine ⟨-9, g4, g8, ?_, ?_, inv⟩
      · rw [cl, if_neg (show ¬ nI A2 < 1000000 from nI_nlt (b := 1000000) (by omega) (by omega))]
      · rw [ml, vB, if_neg (by decide)]
  · have vA : cv A = 10000000 := if_neg qA
    refine ⟨-9, g4, g8, ?_, ?_, inv⟩
    · rw [cl, if_pos (show (1000000 : Int32) ≤ nI A from nI_le (a := 1000000) (by omega) (by omega))]
    · rw [ml, vA, if_pos (by decide)]
