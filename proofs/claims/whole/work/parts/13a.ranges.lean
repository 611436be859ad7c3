theorem rg_pl {h : PH} (hi : iv_H h) (x : Int32) : (∃ k : Nat, k < hv_P h ∧ k < 8 ∧ x = nI k ∧ (∀ g : PH, g.1 10 0 = h.1 10 0 → f_X3_isPlace x g = some 1) ∧ ∀ g : PH, g.1 43 1 = h.1 43 1 → f_X12_noPlace x g = some 0) ∨ ((∀ g : PH, g.1 10 0 = h.1 10 0 → f_X3_isPlace x g = some 0) ∧ ∀ g : PH, g.1 43 1 = h.1 43 1 → f_X12_noPlace x g = some 1) := by
  have z0 : (0 : Int64).toInt = 0 := rfl
  have w1 : h.1 10 0 = nI (hv_P h) := hi.1.1
  have w2 : hv_P h ≤ 8 := hi.1.2.1
  have w3 : h.1 43 1 = h.1 10 0 := hi.1.2.2
  by_cases hx : 0 ≤ x.toInt ∧ x.toInt < hv_P h
  · left
    obtain ⟨k, hk, rfl⟩ := ix_of hx.1 (n := hv_P h) (by omega) (by omega)
    refine ⟨k, hk, by omega, rfl, fun g e => ?_, fun g e => ?_⟩
    · unfold f_X3_isPlace
      rw [e, w1, if_neg (nI_pos (by omega)), if_neg (nI_ge hk (by omega))]
    · unfold f_X12_noPlace
      rw [f_ini, e, w3, w1, nI_l1 (by omega), nI_toInt (by omega), if_pos (by omega), pu_b1, if_neg (by decide)]
  · right
    refine ⟨fun g e => ?_, fun g e => ?_⟩
    · unfold f_X3_isPlace
      by_cases h0 : 0 ≤ x.toInt
      · rw [if_neg (nI_nlt0 h0), e, w1, if_pos (by rw [i_le, nI_toInt (by omega)]; omega)]
      · rw [if_pos (nI_lt0 (by omega))]
    · unfold f_X12_noPlace
      rw [f_ini, e, w3, w1, nI_l1 (by omega), if_neg (by omega), pu_b1, if_pos rfl]
theorem rg_rn {h : PH} (hi : iv_H h) (x : Int32) : (∃ k : Nat, k < hv_R h ∧ k < 14 ∧ x = nI k ∧ (∀ g : PH, g.1 10 2 = h.1 10 2 → f_X3_isRun x g = some 1) ∧ ∀ g : PH, g.1 43 3 = h.1 43 3 → f_X12_noRun x g = some 0) ∨ ((∀ g : PH, g.1 10 2 = h.1 10 2 → f_X3_isRun x g = some 0) ∧ ∀ g : PH, g.1 43 3 = h.1 43 3 → f_X12_noRun x g = some 1) := by
  have z0 : (0 : Int64).toInt = 0 := rfl
  have w1 : h.1 10 2 = nI (hv_R h) := hi.2.2.1.1
  have w2 : hv_R h ≤ 14 := hi.2.2.1.2.1
  have w3 : h.1 43 3 = h.1 10 2 := hi.2.2.1.2.2
  by_cases hx : 0 ≤ x.toInt ∧ x.toInt < hv_R h
  · left
    obtain ⟨k, hk, rfl⟩ := ix_of hx.1 (n := hv_R h) (by omega) (by omega)
    refine ⟨k, hk, by omega, rfl, fun g e => ?_, fun g e => ?_⟩
    · unfold f_X3_isRun
      rw [e, w1, if_neg (nI_pos (by omega)), if_neg (nI_ge hk (by omega))]
    · unfold f_X12_noRun
      rw [f_ini, e, w3, w1, nI_l1 (by omega), nI_toInt (by omega), if_pos (by omega), pu_b1, if_neg (by decide)]
  · right
    refine ⟨fun g e => ?_, fun g e => ?_⟩
    · unfold f_X3_isRun
      by_cases h0 : 0 ≤ x.toInt
      · rw [if_neg (nI_nlt0 h0), e, w1, if_pos (by rw [i_le, nI_toInt (by omega)]; omega)]
      · rw [if_pos (nI_lt0 (by omega))]
    · unfold f_X12_noRun
      rw [f_ini, e, w3, w1, nI_l1 (by omega), if_neg (by omega), pu_b1, if_pos rfl]
theorem rg_pt {h : PH} (hi : iv_P h) (x : Int32) : (∃ k : Nat, k < hv_N h ∧ k < 8 ∧ x = nI k ∧ (∀ g : PH, g.1 17 0 = h.1 17 0 → f_X6_isPoint x g = some 1) ∧ ∀ g : PH, g.1 43 19 = h.1 43 19 → f_X12_noPoint x g = some 0) ∨ ((∀ g : PH, g.1 17 0 = h.1 17 0 → f_X6_isPoint x g = some 0) ∧ ∀ g : PH, g.1 43 19 = h.1 43 19 → f_X12_noPoint x g = some 1) := by
  have z0 : (0 : Int64).toInt = 0 := rfl
  have w1 : h.1 17 0 = nI (hv_N h) := hi.1.1
  have w2 : hv_N h ≤ 8 := hi.1.2.1
  have w3 : h.1 43 19 = h.1 17 0 := hi.1.2.2
  by_cases hx : 0 ≤ x.toInt ∧ x.toInt < hv_N h
  · left
    obtain ⟨k, hk, rfl⟩ := ix_of hx.1 (n := hv_N h) (by omega) (by omega)
    refine ⟨k, hk, by omega, rfl, fun g e => ?_, fun g e => ?_⟩
    · unfold f_X6_isPoint
      rw [e, w1, if_neg (nI_pos (by omega)), if_neg (nI_ge hk (by omega))]
    · unfold f_X12_noPoint
      rw [f_ini, e, w3, w1, nI_l1 (by omega), nI_toInt (by omega), if_pos (by omega), pu_b1, if_neg (by decide)]
  · right
    refine ⟨fun g e => ?_, fun g e => ?_⟩
    · unfold f_X6_isPoint
      by_cases h0 : 0 ≤ x.toInt
      · rw [if_neg (nI_nlt0 h0), e, w1, if_pos (by rw [i_le, nI_toInt (by omega)]; omega)]
      · rw [if_pos (nI_lt0 (by omega))]
    · unfold f_X12_noPoint
      rw [f_ini, e, w3, w1, nI_l1 (by omega), if_neg (by omega), pu_b1, if_pos rfl]
/-- a number between two others, as both test it -/
theorem rg_ld (x : Int32) : (∃ v : Nat, 1 ≤ v ∧ v ≤ 20 ∧ x = nI v ∧ (∀ g : PH, f_X6_isLoad x g = some 1) ∧ ∀ g : PH, f_X12_in x.toInt64 1 20 g = some 1) ∨ ((∀ g : PH, f_X6_isLoad x g = some 0) ∧ ∀ g : PH, f_X12_in x.toInt64 1 20 g = some 0) := by
  have z1 : (1 : Int64).toInt = 1 := rfl
  have z2 : (20 : Int64).toInt = 20 := rfl
  have y1 : (1 : Int32).toInt = 1 := rfl
  have y2 : (20 : Int32).toInt = 20 := rfl
  by_cases hx : 1 ≤ x.toInt ∧ x.toInt ≤ 20
  · left
    obtain ⟨v, hv, rfl⟩ := x_of (show 0 ≤ x.toInt by omega)
    rw [nI_toInt hv] at hx
    refine ⟨v, by omega, by omega, rfl, fun g => ?_, fun g => ?_⟩
    · unfold f_X6_isLoad
      rw [if_neg (by rw [i_lt, nI_toInt hv]; omega), if_neg (by rw [i_lt, nI_toInt hv]; omega)]
    · rw [f_ini, nI_toInt hv, if_pos (by omega)]
  · right
    refine ⟨fun g => ?_, fun g => ?_⟩
    · unfold f_X6_isLoad
      by_cases h0 : x.toInt < 1
      · rw [if_pos (by rw [i_lt]; omega)]
      · rw [if_neg (by rw [i_lt]; omega), if_pos (by rw [i_lt]; omega)]
    · rw [f_ini, if_neg (by omega)]
theorem o_ofRun {n : Nat} {h : PH} (hi : Inv n h) (x y : Int32) : ∃ r, f_X11_ofRun x y h = some r ∧ f_X12_ofRun x y h = some r := by
  have hH := hi.2.2.1
  rcases rg_rn hH x with ⟨k, hk, hk2, rfl, w1, w2⟩ | ⟨w1, w2⟩
  · obtain ⟨⟨_, _, k1⟩, ⟨_, _, k2⟩, _, ⟨_, _, _, k3⟩, ⟨_, _, k4⟩, _, k5⟩ := hH.2.2.2 k hk
    have hc : (nI k).toNatClampNeg = k := nI_clamp (by omega)
    refine ⟨if y = 0 then h.1 11 k else if y = 1 then h.1 12 k else if y = 2 then h.1 13 k else if y = 3 then h.1 14 k else if y = 4 then (if h.1 15 k = 0 then 0 else 1) else -2, ?_, ?_⟩
    all_goals
      by_cases y0 : y = 0
      · simp [f_X11_ofRun, f_X12_ofRun, w1 h rfl, w2 h rfl, pu_b1, hc, k1, k2, k3, k4, k5, pu_gn hk2, y0]
      by_cases y1 : y = 1
      · simp [f_X11_ofRun, f_X12_ofRun, w1 h rfl, w2 h rfl, pu_b1, hc, k1, k2, k3, k4, k5, pu_gn hk2, y1]
      by_cases y2 : y = 2
      · simp [f_X11_ofRun, f_X12_ofRun, w1 h rfl, w2 h rfl, pu_b1, hc, k1, k2, k3, k4, k5, pu_gn hk2, y2]
      by_cases y3 : y = 3
      · simp [f_X11_ofRun, f_X12_ofRun, w1 h rfl, w2 h rfl, pu_b1, hc, k1, k2, k3, k4, k5, pu_gn hk2, y3]
      by_cases y4 : y = 4
      · by_cases z : h.1 15 k = 0
        · simp [f_X11_ofRun, f_X12_ofRun, w1 h rfl, w2 h rfl, pu_b1, hc, k1, k2, k3, k4, k5, pu_gn hk2, y4, z]
        · simp [f_X11_ofRun, f_X12_ofRun, w1 h rfl, w2 h rfl, pu_b1, hc, k1, k2, k3, k4, k5, pu_gn hk2, y4, z]
      simp [f_X11_ofRun, f_X12_ofRun, w1 h rfl, w2 h rfl, pu_b1, hc, k1, k2, k3, k4, k5, pu_gn hk2, y0, y1, y2, y3, y4]
  · exact ⟨-1, by simp [f_X11_ofRun, w1 h rfl, pu_b1], by simp [f_X12_ofRun, w2 h rfl, pu_b1]⟩
theorem o_box {n : Nat} {h : PH} (hi : Inv n h) (x : Int32) : ∃ r h1 h2, f_X11_box x h = some (r, h1) ∧ f_X12_box x h1 = some (r, h2) ∧ Inv (n + 1) h2 := by
  obtain ⟨hS, hF, hH, hX, hP, hW, hR, hC⟩ := hi
  rcases rg_pl hH x with ⟨k, hk, hk2, rfl, w1, w2⟩ | ⟨w1, w2⟩
  · refine ⟨h.1 10 1, ph_i h 10 1 (nI k), ph_i (ph_i h 10 1 (nI k)) 43 2 (nI k), ?_, ?_, ?_⟩
    · simp [f_X11_box, w1 h rfl, pu_b1, pu_lt]
    · simp [f_X12_box, w2 (ph_i h 10 1 (nI k)) (by simp [pr_row]), pu_b1, pu_lt, pr_row, hH.2.1.2.2]
    · refine ⟨?_, ⟨?_, ?_⟩, ?_, ?_, ?_, ?_, ?_, ?_⟩
      · apply fr_S hS <;> simp [pr_row]
      · simp [pr_row, up_at, hF.1]
      · simp [pr_row, up_at, hF.2]
      · obtain ⟨a1, a2, a3, a4⟩ := hH
        have e0 : (ph_i (ph_i h 10 1 (nI k)) 43 2 (nI k)).1 10 0 = h.1 10 0 := by simp [pr_row, up_at]
        have e1 : (ph_i (ph_i h 10 1 (nI k)) 43 2 (nI k)).1 10 1 = nI k := by simp [pr_row, up_at]
        have e2 : (ph_i (ph_i h 10 1 (nI k)) 43 2 (nI k)).1 10 2 = h.1 10 2 := by simp [pr_row, up_at]
        have f1 : (ph_i (ph_i h 10 1 (nI k)) 43 2 (nI k)).1 43 1 = h.1 43 1 := by simp [pr_row, up_at]
        have f2 : (ph_i (ph_i h 10 1 (nI k)) 43 2 (nI k)).1 43 2 = nI k := by simp [pr_row, up_at]
        have f3 : (ph_i (ph_i h 10 1 (nI k)) 43 2 (nI k)).1 43 3 = h.1 43 3 := by simp [pr_row, up_at]
        have E : ∀ a, a ≠ 10 → a ≠ 43 → (ph_i (ph_i h 10 1 (nI k)) 43 2 (nI k)).1 a = h.1 a := fun a h1 h2 => by rw [pr_row, if_neg h2, pr_row, if_neg h1]
        have hc : (nI k).toNatClampNeg = k := nI_clamp (by omega)
        unfold iv_H iv_k hv_P hv_B hv_R hv_f hv_t hv_y hv_d at *
        rw [e0, e1, e2, f1, f2, f3, hc, E 11 (by decide) (by decide), E 12 (by decide) (by decide), E 13 (by decide) (by decide), E 14 (by decide) (by decide), E 15 (by decide) (by decide), E 44 (by decide) (by decide), E 45 (by decide) (by decide), E 46 (by decide) (by decide), E 47 (by decide) (by decide), E 48 (by decide) (by decide)]
        exact ⟨a1, ⟨rfl, fun _ => hk, rfl⟩, a3, a4⟩
      · apply fr_X hX <;> simp [pr_row, up_at]
      · apply fr_P hP <;> simp [pr_row, up_at]
      · apply fr_W hW <;> first | exact big_i (by decide) (big_i (by decide) (fun _ _ => rfl)) | rfl | simp [pr_row, up_at]
      · apply fr_R hR <;> simp [pr_row, up_at]
      · exact fr_C hC (big_i (by decide) (big_i (by decide) (fun _ _ => rfl))) rfl
  · refine ⟨-1, h, h, ?_, ?_, inv_up ⟨hS, hF, hH, hX, hP, hW, hR, hC⟩⟩
    · simp [f_X11_box, w1 h rfl, pu_b1]
    · simp [f_X12_box, w2 h rfl, pu_b1]
theorem o_load {n : Nat} {h : PH} (hi : Inv n h) (x y : Int32) : ∃ r h1 h2, f_X11_load x y h = some (r, h1) ∧ f_X12_load x y h1 = some (r, h2) ∧ Inv (n + 1) h2 := by
  obtain ⟨hS, hF, hH, hX, hP, hW, hR, hC⟩ := hi
  rcases rg_pt hP x with ⟨k, hk, hk2, rfl, w1, w2⟩ | ⟨w1, w2⟩
  · have hc : (nI k).toNatClampNeg = k := nI_clamp (by omega)
    rcases rg_ld y with ⟨v, hv1, hv2, rfl, u1, u2⟩ | ⟨u1, u2⟩
    · have hcv : (nI v).toNatClampNeg = v := nI_clamp (by omega)
      have e55 : h.1 55 k = h.1 19 k := (hP.2 k hk).2.1.2.2.2
      refine ⟨h.1 19 k, ph_i h 19 k (nI v), ph_i (ph_i h 19 k (nI v)) 55 k (nI v), ?_, ?_, ?_⟩
      · simp [f_X11_load, w1 h rfl, u1, pu_b1, pu_lt, pu_gn hk2, hc]
      · simp [f_X12_load, w2 (ph_i h 19 k (nI v)) (by simp [pr_row]), u2, pu_b1, pu_lt, pu_gn hk2, hc, pr_row, e55]
      · refine ⟨?_, ⟨?_, ?_⟩, ?_, ?_, ?_, ?_, ?_, ?_⟩
        · apply fr_S hS <;> simp [pr_row]
        · simp [pr_row, up_at, hF.1]
        · simp [pr_row, up_at, hF.2]
        · apply fr_H hH <;> simp [pr_row, up_at]
        · apply fr_X hX <;> simp [pr_row, up_at]
        · have E : ∀ a, a ≠ 19 → a ≠ 55 → (ph_i (ph_i h 19 k (nI v)) 55 k (nI v)).1 a = h.1 a := fun a h1 h2 => by rw [pr_row, if_neg h2, pr_row, if_neg h1]
          unfold iv_P hv_N hv_P hv_p hv_r at *
          rw [E 17 (by decide) (by decide), E 43 (by decide) (by decide), E 10 (by decide) (by decide), E 18 (by decide) (by decide), E 54 (by decide) (by decide), E 20 (by decide) (by decide), E 56 (by decide) (by decide)]
          refine ⟨hP.1, fun p hp => ⟨(hP.2 p hp).1, ?_, (hP.2 p hp).2.2⟩⟩
          have e19 : (ph_i (ph_i h 19 k (nI v)) 55 k (nI v)).1 19 p = if p = k then nI v else h.1 19 p := by simp [pr_row, up_at]
          have e55 : (ph_i (ph_i h 19 k (nI v)) 55 k (nI v)).1 55 p = if p = k then nI v else h.1 55 p := by simp [pr_row, up_at]
          unfold hv_l
          rw [e19, e55]
          by_cases hpk : p = k
          · rw [if_pos hpk, if_pos hpk, hcv]
            exact ⟨rfl, hv1, hv2, rfl⟩
          · rw [if_neg hpk, if_neg hpk]
            exact (hP.2 p hp).2.1
        · apply fr_W hW <;> first | exact big_i (by decide) (big_i (by decide) (fun _ _ => rfl)) | rfl | simp [pr_row, up_at]
        · apply fr_R hR <;> simp [pr_row, up_at]
        · exact fr_C hC (big_i (by decide) (big_i (by decide) (fun _ _ => rfl))) rfl
    · refine ⟨-2, h, h, ?_, ?_, inv_up ⟨hS, hF, hH, hX, hP, hW, hR, hC⟩⟩
      · simp [f_X11_load, w1 h rfl, u1, pu_b1]
      · simp [f_X12_load, w2 h rfl, u2, pu_b1]
  · refine ⟨-1, h, h, ?_, ?_, inv_up ⟨hS, hF, hH, hX, hP, hW, hR, hC⟩⟩
    · simp [f_X11_load, w1 h rfl, pu_b1]
    · simp [f_X12_load, w2 h rfl, pu_b1]
