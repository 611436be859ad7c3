/-! ONE TURN OF THE LAW'S LOOP (written by gen_step.py) -/
set_option maxHeartbeats 4000000 in
set_option maxRecDepth 100000 in
theorem law_step {Ln n i : Nat} {xs : Nat → Int32} {h : PH} (hL : Ln ≤ 3584) (hi7 : i + 7 ≤ Ln) (hn : n ≤ 512) (hi : Inv n h) : ∃ h2, lb_law Ln xs (nI i) h = some (.inl (nI (i + 7), h2)) ∧ Inv (n + 1) h2 := by
  have c0 : (nI i).toNatClampNeg = i := nI_clamp (by omega)
  have a1 : nI i + 1 = nI (i + 1) := nI_add i 1
  have a2 : nI i + 2 = nI (i + 2) := nI_add i 2
  have a3 : nI i + 3 = nI (i + 3) := nI_add i 3
  have a4 : nI i + 4 = nI (i + 4) := nI_add i 4
  have a5 : nI i + 5 = nI (i + 5) := nI_add i 5
  have a6 : nI i + 6 = nI (i + 6) := nI_add i 6
  have a7 : nI i + 7 = nI (i + 7) := nI_add i 7
  have c1 : (nI (i + 1)).toNatClampNeg = i + 1 := nI_clamp (by omega)
  have g1 : ∀ {β : Type} {K : Option β}, ga_i (nI (i + 1)) Ln K = K := fun {β K} => pu_gn (by omega) (by omega)
  have c2 : (nI (i + 2)).toNatClampNeg = i + 2 := nI_clamp (by omega)
  have g2 : ∀ {β : Type} {K : Option β}, ga_i (nI (i + 2)) Ln K = K := fun {β K} => pu_gn (by omega) (by omega)
  have c3 : (nI (i + 3)).toNatClampNeg = i + 3 := nI_clamp (by omega)
  have g3 : ∀ {β : Type} {K : Option β}, ga_i (nI (i + 3)) Ln K = K := fun {β K} => pu_gn (by omega) (by omega)
  have c4 : (nI (i + 4)).toNatClampNeg = i + 4 := nI_clamp (by omega)
  have g4 : ∀ {β : Type} {K : Option β}, ga_i (nI (i + 4)) Ln K = K := fun {β K} => pu_gn (by omega) (by omega)
  have c5 : (nI (i + 5)).toNatClampNeg = i + 5 := nI_clamp (by omega)
  have g5 : ∀ {β : Type} {K : Option β}, ga_i (nI (i + 5)) Ln K = K := fun {β K} => pu_gn (by omega) (by omega)
  have c6 : (nI (i + 6)).toNatClampNeg = i + 6 := nI_clamp (by omega)
  have g6 : ∀ {β : Type} {K : Option β}, ga_i (nI (i + 6)) Ln K = K := fun {β K} => pu_gn (by omega) (by omega)
  have ex : ¬ (Int32.ofNat Ln - 7 < nI i) := by
    show ¬ (nI Ln - nI 7 < nI i)
    rw [nI_sub (by omega)]
    exact nI_nlt (by omega) (by omega)
  unfold lb_law
  rw [if_neg ex, pu_gn (show i < Ln by omega) (by omega), c0]
  generalize xs i &&& 63 = op
  by_cases k0 : op = 0
  · rw [if_pos k0]
    simp only [a1, a2, a3, a4, a5, a6, a7, c1, c2, c3, c4, c5, c6, g1, g2, g3, g4, g5, g6, pu_lt]
    obtain ⟨r, h1, h2, e1, e2, e3⟩ := o_house hi (xs (i + 1)) (xs (i + 2)) (xs (i + 3)) (xs (i + 4))
    exact ⟨h2, by rw [e1, pu_b2, e2, pu_b2, if_pos rfl], e3⟩
  rw [if_neg k0]
  by_cases k1 : op = 1
  · rw [if_pos k1]
    simp only [a1, a2, a3, a4, a5, a6, a7, c1, c2, c3, c4, c5, c6, g1, g2, g3, g4, g5, g6, pu_lt]
    obtain ⟨r, e1, e2⟩ := o_ofRun hi (xs (i + 1)) (xs (i + 2))
    exact ⟨h, by rw [e1, pu_b1, e2, pu_b1, if_pos rfl], inv_up hi⟩
  rw [if_neg k1]
  by_cases k2 : op = 2
  · rw [if_pos k2]
    simp only [a1, a2, a3, a4, a5, a6, a7, c1, c2, c3, c4, c5, c6, g1, g2, g3, g4, g5, g6, pu_lt]
    by_cases hb : xs (i + 2) = 0
    · obtain ⟨r, h1, h2, e1, e2, e3⟩ := o_shut hi (xs (i + 1)) 0 (Or.inl rfl)
      exact ⟨h2, by rw [if_pos hb, e1, pu_b2, if_pos hb, e2, pu_b2, if_pos rfl], e3⟩
    · obtain ⟨r, h1, h2, e1, e2, e3⟩ := o_shut hi (xs (i + 1)) 1 (Or.inr rfl)
      exact ⟨h2, by rw [if_neg hb, e1, pu_b2, if_neg hb, e2, pu_b2, if_pos rfl], e3⟩
  rw [if_neg k2]
  by_cases k3 : op = 3
  · rw [if_pos k3]
    simp only [a1, a2, a3, a4, a5, a6, a7, c1, c2, c3, c4, c5, c6, g1, g2, g3, g4, g5, g6, pu_lt]
    obtain ⟨r, e1, e2⟩ := o_run hi (xs (i + 1)) (xs (i + 2)) (xs (i + 3))
    exact ⟨h, by rw [e1, pu_b1, e2, pu_b1, if_pos rfl], inv_up hi⟩
  rw [if_neg k3]
  by_cases k4 : op = 4
  · rw [if_pos k4]
    simp only [a1, a2, a3, a4, a5, a6, a7, c1, c2, c3, c4, c5, c6, g1, g2, g3, g4, g5, g6, pu_lt]
    obtain ⟨r, e1, e2⟩ := o_along hi (xs (i + 1)) (xs (i + 2)) (xs (i + 3))
    exact ⟨h, by rw [e1, pu_b1, e2, pu_b1, if_pos rfl], inv_up hi⟩
  rw [if_neg k4]
  by_cases k5 : op = 5
  · rw [if_pos k5]
    simp only [a1, a2, a3, a4, a5, a6, a7, c1, c2, c3, c4, c5, c6, g1, g2, g3, g4, g5, g6, pu_lt]
    obtain ⟨r, h1, h2, e1, e2, e3⟩ := o_box hi (xs (i + 1))
    exact ⟨h2, by rw [e1, pu_b2, e2, pu_b2, if_pos rfl], e3⟩
  rw [if_neg k5]
  by_cases k6 : op = 6
  · rw [if_pos k6]
    simp only [a1, a2, a3, a4, a5, a6, a7, c1, c2, c3, c4, c5, c6, g1, g2, g3, g4, g5, g6, pu_lt]
    obtain ⟨r, h1, h2, e1, e2, e3⟩ := o_point hi (xs (i + 1)) (xs (i + 2)) (xs (i + 3))
    exact ⟨h2, by rw [e1, pu_b2, e2, pu_b2, if_pos rfl], e3⟩
  rw [if_neg k6]
  by_cases k7 : op = 7
  · rw [if_pos k7]
    simp only [a1, a2, a3, a4, a5, a6, a7, c1, c2, c3, c4, c5, c6, g1, g2, g3, g4, g5, g6, pu_lt]
    obtain ⟨r, e1, e2⟩ := o_ofPoint hi (xs (i + 1)) (xs (i + 2))
    exact ⟨h, by rw [e1, pu_b1, e2, pu_b1, if_pos rfl], inv_up hi⟩
  rw [if_neg k7]
  by_cases k8 : op = 8
  · rw [if_pos k8]
    simp only [a1, a2, a3, a4, a5, a6, a7, c1, c2, c3, c4, c5, c6, g1, g2, g3, g4, g5, g6, pu_lt]
    obtain ⟨r, h1, h2, e1, e2, e3⟩ := o_load hi (xs (i + 1)) (xs (i + 2))
    exact ⟨h2, by rw [e1, pu_b2, e2, pu_b2, if_pos rfl], e3⟩
  rw [if_neg k8]
  by_cases k9 : op = 9
  · rw [if_pos k9]
    simp only [a1, a2, a3, a4, a5, a6, a7, c1, c2, c3, c4, c5, c6, g1, g2, g3, g4, g5, g6, pu_lt]
    obtain ⟨r, h1, h2, e1, e2, e3⟩ := o_way hi hn (xs (i + 1)) (xs (i + 2)) (xs (i + 3)) (xs (i + 4)) (xs (i + 5)) (xs (i + 6))
    exact ⟨h2, by rw [e1, pu_b2, e2, pu_b2, if_pos rfl], e3⟩
  rw [if_neg k9]
  by_cases k10 : op = 10
  · rw [if_pos k10]
    simp only [a1, a2, a3, a4, a5, a6, a7, c1, c2, c3, c4, c5, c6, g1, g2, g3, g4, g5, g6, pu_lt]
    obtain ⟨r, h1, h2, e1, e2, e3⟩ := o_away hi (xs (i + 1))
    exact ⟨h2, by rw [e1, pu_b2, e2, pu_b2, if_pos rfl], e3⟩
  rw [if_neg k10]
  by_cases k11 : op = 11
  · rw [if_pos k11]
    simp only [a1, a2, a3, a4, a5, a6, a7, c1, c2, c3, c4, c5, c6, g1, g2, g3, g4, g5, g6, pu_lt]
    obtain ⟨r, e1, e2⟩ := o_ofWay hi (xs (i + 1)) (xs (i + 2))
    exact ⟨h, by rw [e1, pu_b1, e2, pu_b1, if_pos rfl], inv_up hi⟩
  rw [if_neg k11]
  by_cases k12 : op = 12
  · rw [if_pos k12]
    simp only [a1, a2, a3, a4, a5, a6, a7, c1, c2, c3, c4, c5, c6, g1, g2, g3, g4, g5, g6, pu_lt]
    obtain ⟨r, e1, e2⟩ := o_cable hi (xs (i + 1)) (xs (i + 2))
    exact ⟨h, by rw [e1, pu_b1, e2, pu_b1, if_pos rfl], inv_up hi⟩
  rw [if_neg k12]
  by_cases k13 : op = 13
  · rw [if_pos k13]
    simp only [a1, a2, a3, a4, a5, a6, a7, c1, c2, c3, c4, c5, c6, g1, g2, g3, g4, g5, g6, pu_lt]
    obtain ⟨r, h2, e1, e2, e3⟩ := o_carries hi (xs (i + 1)) (xs (i + 2)) (xs (i + 3))
    exact ⟨h2, by rw [e1, pu_b1, e2, pu_b2, if_pos ((lg_cmp_eq r r).mpr rfl)], e3⟩
  rw [if_neg k13]
  by_cases k14 : op = 14
  · rw [if_pos k14]
    simp only [a1, a2, a3, a4, a5, a6, a7, c1, c2, c3, c4, c5, c6, g1, g2, g3, g4, g5, g6, pu_lt]
    obtain ⟨r, h2, e1, e2, e3⟩ := o_drop hi (xs (i + 1)) (xs (i + 2)) (xs (i + 3))
    exact ⟨h2, by rw [e1, pu_b1, e2, pu_b2, if_pos ((lg_cmp_eq r r).mpr rfl)], e3⟩
  rw [if_neg k14]
  by_cases k15 : op = 15
  · rw [if_pos k15]
    simp only [a1, a2, a3, a4, a5, a6, a7, c1, c2, c3, c4, c5, c6, g1, g2, g3, g4, g5, g6, pu_lt]
    obtain ⟨r, h2, e1, e2, e3⟩ := o_tooMuch hi (xs (i + 1))
    exact ⟨h2, by rw [e1, pu_b1, e2, pu_b2, if_pos rfl], e3⟩
  rw [if_neg k15]
  by_cases k16 : op = 16
  · rw [if_pos k16]
    simp only [a1, a2, a3, a4, a5, a6, a7, c1, c2, c3, c4, c5, c6, g1, g2, g3, g4, g5, g6, pu_lt]
    obtain ⟨r, h1, h2, e1, e2, e3⟩ := o_least hi (xs (i + 1)) (xs (i + 2))
    exact ⟨h2, by rw [e1, pu_b2, e2, pu_b2, if_pos rfl], e3⟩
  rw [if_neg k16]
  by_cases k17 : op = 17
  · rw [if_pos k17]
    simp only [a1, a2, a3, a4, a5, a6, a7, c1, c2, c3, c4, c5, c6, g1, g2, g3, g4, g5, g6, pu_lt]
    obtain ⟨r, h1, h2, e1, e2, e3⟩ := o_order hi (xs (i + 1)) (xs (i + 2)) (xs (i + 3))
    exact ⟨h2, by rw [e1, pu_b2, e2, pu_b2, if_pos rfl], e3⟩
  rw [if_neg k17]
  by_cases k18 : op = 18
  · rw [if_pos k18]
    simp only [a1, a2, a3, a4, a5, a6, a7, c1, c2, c3, c4, c5, c6, g1, g2, g3, g4, g5, g6, pu_lt]
    by_cases hb : xs (i + 3) = 0
    · obtain ⟨r, h1, h2, e1, e2, e3⟩ := o_plan hi (xs (i + 1)) (xs (i + 2)) 0 (Or.inl rfl)
      exact ⟨h2, by rw [if_pos hb, e1, pu_b2, if_pos hb, e2, pu_b2, if_pos rfl], e3⟩
    · obtain ⟨r, h1, h2, e1, e2, e3⟩ := o_plan hi (xs (i + 1)) (xs (i + 2)) 1 (Or.inr rfl)
      exact ⟨h2, by rw [if_neg hb, e1, pu_b2, if_neg hb, e2, pu_b2, if_pos rfl], e3⟩
  rw [if_neg k18]
  by_cases k19 : op = 19
  · rw [if_pos k19]
    simp only [a1, a2, a3, a4, a5, a6, a7, c1, c2, c3, c4, c5, c6, g1, g2, g3, g4, g5, g6, pu_lt]
    by_cases hb : xs (i + 3) = 0
    · obtain ⟨r, h1, h2, e1, e2, e3⟩ := o_on hi (xs (i + 1)) (xs (i + 2)) 0 (xs (i + 4)) (Or.inl rfl)
      exact ⟨h2, by rw [if_pos hb, e1, pu_b2, if_pos hb, e2, pu_b2, if_pos rfl], e3⟩
    · obtain ⟨r, h1, h2, e1, e2, e3⟩ := o_on hi (xs (i + 1)) (xs (i + 2)) 1 (xs (i + 4)) (Or.inr rfl)
      exact ⟨h2, by rw [if_neg hb, e1, pu_b2, if_neg hb, e2, pu_b2, if_pos rfl], e3⟩
  rw [if_neg k19]
  by_cases k20 : op = 20
  · rw [if_pos k20]
    simp only [a1, a2, a3, a4, a5, a6, a7, c1, c2, c3, c4, c5, c6, g1, g2, g3, g4, g5, g6, pu_lt]
    by_cases hb : xs (i + 3) = 0
    · obtain ⟨r, h1, h2, e1, e2, e3⟩ := o_best hi (xs (i + 1)) (xs (i + 2)) 0 (Or.inl rfl)
      exact ⟨h2, by rw [if_pos hb, e1, pu_b2, if_pos hb, e2, pu_b2, if_pos rfl], e3⟩
    · obtain ⟨r, h1, h2, e1, e2, e3⟩ := o_best hi (xs (i + 1)) (xs (i + 2)) 1 (Or.inr rfl)
      exact ⟨h2, by rw [if_neg hb, e1, pu_b2, if_neg hb, e2, pu_b2, if_pos rfl], e3⟩
  rw [if_neg k20]
  by_cases k21 : op = 21
  · rw [if_pos k21]
    simp only [a1, a2, a3, a4, a5, a6, a7, c1, c2, c3, c4, c5, c6, g1, g2, g3, g4, g5, g6, pu_lt]
    by_cases hb : xs (i + 4) = 0
    · obtain ⟨r, h1, h2, e1, e2, e3⟩ := o_costs hi (xs (i + 1)) (xs (i + 2)) (xs (i + 3)) 0 (Or.inl rfl)
      exact ⟨h2, by rw [if_pos hb, e1, pu_b2, if_pos hb, e2, pu_b2, if_pos rfl], e3⟩
    · obtain ⟨r, h1, h2, e1, e2, e3⟩ := o_costs hi (xs (i + 1)) (xs (i + 2)) (xs (i + 3)) 1 (Or.inr rfl)
      exact ⟨h2, by rw [if_neg hb, e1, pu_b2, if_neg hb, e2, pu_b2, if_pos rfl], e3⟩
  rw [if_neg k21]
  by_cases k22 : op = 22
  · rw [if_pos k22]
    simp only [a1, a2, a3, a4, a5, a6, a7, c1, c2, c3, c4, c5, c6, g1, g2, g3, g4, g5, g6, pu_lt]
    obtain ⟨r, h1, h2, e1, e2, e3⟩ := o_cores hi (xs (i + 1)) (xs (i + 2))
    exact ⟨h2, by rw [e1, pu_b2, e2, pu_b2, if_pos rfl], e3⟩
  rw [if_neg k22]
  by_cases k23 : op = 23
  · rw [if_pos k23]
    simp only [a1, a2, a3, a4, a5, a6, a7, c1, c2, c3, c4, c5, c6, g1, g2, g3, g4, g5, g6, pu_lt]
    obtain ⟨r, h1, h2, e1, e2, e3⟩ := o_door hi (xs (i + 1)) (xs (i + 2)) (xs (i + 3))
    exact ⟨h2, by rw [e1, pu_b2, e2, pu_b2, if_pos rfl], e3⟩
  rw [if_neg k23]
  by_cases k24 : op = 24
  · rw [if_pos k24]
    simp only [a1, a2, a3, a4, a5, a6, a7, c1, c2, c3, c4, c5, c6, g1, g2, g3, g4, g5, g6, pu_lt]
    obtain ⟨r, h1, h2, e1, e2, e3⟩ := o_reading hi (xs (i + 1)) (xs (i + 2))
    exact ⟨h2, by rw [e1, pu_b2, e2, pu_b2, if_pos rfl], e3⟩
  rw [if_neg k24]
  by_cases k25 : op = 25
  · rw [if_pos k25]
    simp only [a1, a2, a3, a4, a5, a6, a7, c1, c2, c3, c4, c5, c6, g1, g2, g3, g4, g5, g6, pu_lt]
    obtain ⟨r, h1, h2, e1, e2, e3⟩ := o_back hi (xs (i + 1))
    exact ⟨h2, by rw [e1, pu_b2, e2, pu_b2, if_pos rfl], e3⟩
  rw [if_neg k25]
  by_cases k26 : op = 26
  · rw [if_pos k26]
    simp only [a1, a2, a3, a4, a5, a6, a7, c1, c2, c3, c4, c5, c6, g1, g2, g3, g4, g5, g6, pu_lt]
    obtain ⟨r, h1, h2, e1, e2, e4, e3⟩ := o_fits hi (xs (i + 1))
    subst e4
    exact ⟨h2, by rw [e1, pu_b2, e2, pu_b1, if_pos rfl], e3⟩
  rw [if_neg k26]
  by_cases k27 : op = 27
  · rw [if_pos k27]
    simp only [a1, a2, a3, a4, a5, a6, a7, c1, c2, c3, c4, c5, c6, g1, g2, g3, g4, g5, g6, pu_lt]
    obtain ⟨r, h1, h2, e1, e2, e4, e3⟩ := o_next hi 
    subst e4
    exact ⟨h2, by rw [e1, pu_b2, e2, pu_b1, if_pos rfl], e3⟩
  rw [if_neg k27]
  by_cases k28 : op = 28
  · rw [if_pos k28]
    simp only [a1, a2, a3, a4, a5, a6, a7, c1, c2, c3, c4, c5, c6, g1, g2, g3, g4, g5, g6, pu_lt]
    obtain ⟨r, h1, h2, e1, e2, e3⟩ := o_sheet hi (xs (i + 1)) (xs (i + 2)) (xs (i + 3))
    exact ⟨h2, by rw [e1, pu_b2, e2, pu_b2, if_pos rfl], e3⟩
  rw [if_neg k28]
  by_cases k29 : op = 29
  · rw [if_pos k29]
    simp only [a1, a2, a3, a4, a5, a6, a7, c1, c2, c3, c4, c5, c6, g1, g2, g3, g4, g5, g6, pu_lt]
    obtain ⟨r, h1, h2, e1, e2, e3⟩ := o_lose hi (xs (i + 1))
    exact ⟨h2, by rw [e1, pu_b2, e2, pu_b2, if_pos rfl], e3⟩
  rw [if_neg k29]
  by_cases k30 : op = 30
  · rw [if_pos k30]
    simp only [a1, a2, a3, a4, a5, a6, a7, c1, c2, c3, c4, c5, c6, g1, g2, g3, g4, g5, g6, pu_lt]
    obtain ⟨r, h1, h2, e1, e2, e3⟩ := o_put hi (xs (i + 1)) (xs (i + 2)) (xs (i + 3))
    exact ⟨h2, by rw [e1, pu_b2, e2, pu_b2, if_pos rfl], e3⟩
  rw [if_neg k30]
  by_cases k31 : op = 31
  · rw [if_pos k31]
    simp only [a1, a2, a3, a4, a5, a6, a7, c1, c2, c3, c4, c5, c6, g1, g2, g3, g4, g5, g6, pu_lt]
    obtain ⟨r, h1, h2, e1, e2, e3⟩ := o_cell hi (xs (i + 1)) (xs (i + 2)) (xs (i + 3))
    exact ⟨h2, by rw [e1, pu_b2, e2, pu_b2, if_pos ((lg_cmp_eq r r).mpr rfl)], e3⟩
  rw [if_neg k31]
  by_cases k32 : op = 32
  · rw [if_pos k32]
    simp only [a1, a2, a3, a4, a5, a6, a7, c1, c2, c3, c4, c5, c6, g1, g2, g3, g4, g5, g6, pu_lt]
    obtain ⟨r, h1, h2, e1, e2, e3⟩ := o_copy hi (xs (i + 1)) (xs (i + 2)) (xs (i + 3)) (xs (i + 4)) (xs (i + 5))
    exact ⟨h2, by rw [e1, pu_b2, e2, pu_b2, if_pos rfl], e3⟩
  rw [if_neg k32]
  by_cases k33 : op = 33
  · rw [if_pos k33]
    simp only [a1, a2, a3, a4, a5, a6, a7, c1, c2, c3, c4, c5, c6, g1, g2, g3, g4, g5, g6, pu_lt]
    obtain ⟨r, h1, h2, e1, e2, e3⟩ := o_tell hi (xs (i + 1))
    exact ⟨h2, by rw [e1, pu_b2, e2, pu_b2, if_pos rfl], e3⟩
  rw [if_neg k33]
  by_cases k34 : op = 34
  · rw [if_pos k34]
    simp only [a1, a2, a3, a4, a5, a6, a7, c1, c2, c3, c4, c5, c6, g1, g2, g3, g4, g5, g6, pu_lt]
    obtain ⟨r, h1, h2, e1, e2, e3⟩ := o_label hi (xs (i + 1))
    exact ⟨h2, by rw [e1, pu_b2, e2, pu_b2, if_pos rfl], e3⟩
  rw [if_neg k34]
  by_cases k35 : op = 35
  · rw [if_pos k35]
    simp only [a1, a2, a3, a4, a5, a6, a7, c1, c2, c3, c4, c5, c6, g1, g2, g3, g4, g5, g6, pu_lt]
    obtain ⟨r, h1, h2, e1, e2, e3⟩ := o_as hi (xs (i + 1)) (xs (i + 2))
    exact ⟨h2, by rw [e1, pu_b2, e2, pu_b2, if_pos rfl], e3⟩
  rw [if_neg k35]
  by_cases k36 : op = 36
  · rw [if_pos k36]
    simp only [a1, a2, a3, a4, a5, a6, a7, c1, c2, c3, c4, c5, c6, g1, g2, g3, g4, g5, g6, pu_lt]
    obtain ⟨e1, e2⟩ := o_trace hi
    exact ⟨h, by rw [e1, pu_b1, e2, pu_b1, if_pos rfl], inv_up hi⟩
  rw [if_neg k36]
  by_cases k37 : op = 37
  · rw [if_pos k37]
    simp only [a1, a2, a3, a4, a5, a6, a7, c1, c2, c3, c4, c5, c6, g1, g2, g3, g4, g5, g6, pu_lt]
    obtain ⟨e1, e2⟩ := o_fault hi
    exact ⟨h, by rw [e1, pu_b1, e2, pu_b1, if_pos rfl], inv_up hi⟩
  rw [if_neg k37]
  by_cases k38 : op = 38
  · rw [if_pos k38]
    simp only [a1, a2, a3, a4, a5, a6, a7, c1, c2, c3, c4, c5, c6, g1, g2, g3, g4, g5, g6, pu_lt]
    obtain ⟨r, e1, e2⟩ := o_many hi (xs (i + 1))
    exact ⟨h, by rw [e1, pu_b1, e2, pu_b1, if_pos rfl], inv_up hi⟩
  rw [if_neg k38]
  simp only [a7, pu_lt]
  exact ⟨h, rfl, inv_up hi⟩
