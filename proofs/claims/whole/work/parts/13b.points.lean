theorem sh_all {N : Nat} (hN : N ≤ 8) : ((1 : Int32) <<< (nI N &&& 31)) - 1 = nI (2 ^ N - 1) := by
  have : ∀ N : Fin 9, ((1 : Int32) <<< (nI N.1 &&& 31)) - 1 = nI (2 ^ N.1 - 1) := by decide +kernel
  exact this ⟨N, by omega⟩
theorem sh_one {N : Nat} (hN : N ≤ 8) : ((1 : Int32) <<< (nI N &&& 31)) = nI (2 ^ N) := by
  have : ∀ N : Fin 9, ((1 : Int32) <<< (nI N.1 &&& 31)) = nI (2 ^ N.1) := by decide +kernel
  exact this ⟨N, by omega⟩
theorem sh_alll {N : Nat} (hN : N ≤ 8) : (((1 : Int64) <<< ((nI N).toInt64 &&& 63)) - 1).toInt = (2 ^ N : Nat) - 1 := by
  have : ∀ N : Fin 9, (((1 : Int64) <<< ((nI N.1).toInt64 &&& 63)) - 1).toInt = (2 ^ N.1 : Nat) - 1 := by decide +kernel
  exact this ⟨N, by omega⟩
theorem p2_le {N : Nat} (hN : N ≤ 8) : 2 ^ N ≤ 256 := by
  have : 2 ^ N ≤ 2 ^ 8 := Nat.pow_le_pow_right (by omega) hN
  omega
theorem set_in {N : Nat} (hN : N ≤ 8) (x : Int32) : (x &&& (nI (2 ^ N - 1) ^^^ (-1)) = 0) ↔ ∃ s, s < 2 ^ N ∧ x = nI s := by
  constructor
  · intro hx
    have hb := congrArg Int32.toBitVec hx
    rw [Int32.toBitVec_and] at hb
    have hm : (nI (2 ^ N - 1) ^^^ (-1)).toBitVec = ~~~ (BitVec.ofNat 32 (2 ^ N - 1)) := by
      have : ∀ N : Fin 9, (nI (2 ^ N.1 - 1) ^^^ (-1)).toBitVec = ~~~ (BitVec.ofNat 32 (2 ^ N.1 - 1)) := by decide +kernel
      exact this ⟨N, by omega⟩
    rw [hm] at hb
    have hlt : x.toBitVec.toNat < 2 ^ N := by
      apply Nat.lt_pow_two_of_testBit
      intro i hi
      by_cases h32 : i < 32
      · have h1 := congrArg (fun b => BitVec.getLsbD b i) hb
        simp only [BitVec.getLsbD_and, BitVec.getLsbD_not, BitVec.getLsbD_ofNat, Nat.testBit_two_pow_sub_one] at h1
        have h2 : decide (i < N) = false := by simp; omega
        rw [h2] at h1
        have h3 : (0 : Int32).toBitVec.getLsbD i = false := by
          show (0#32).getLsbD i = false
          simp
        rw [h3] at h1
        rw [BitVec.testBit_toNat]
        simpa only [h32, decide_true, decide_false, Bool.true_and, Bool.and_false, Bool.not_false, Bool.and_true] using h1
      · apply Nat.testBit_lt_two_pow
        have := x.toBitVec.isLt
        exact Nat.lt_of_lt_of_le this (Nat.pow_le_pow_right (by omega) (by omega))
    refine ⟨x.toBitVec.toNat, hlt, ?_⟩
    apply Int32.toBitVec_inj.mp
    show x.toBitVec = BitVec.ofNat 32 x.toBitVec.toNat
    simp
  · rintro ⟨s, hs, rfl⟩
    have : ∀ N : Fin 9, ∀ s : Fin 256, s.1 < 2 ^ N.1 → nI s.1 &&& (nI (2 ^ N.1 - 1) ^^^ (-1)) = 0 := by decide +kernel
    exact this ⟨N, by omega⟩ ⟨s, by have := p2_le hN; omega⟩ hs
theorem in_set {N : Nat} (hN : N ≤ 8) (x : Int32) : (0 ≤ x.toInt ∧ x.toInt ≤ ((2 ^ N : Nat) : Int) - 1) ↔ ∃ s, s < 2 ^ N ∧ x = nI s := by
  have hp := p2_le hN
  constructor
  · intro hx
    obtain ⟨s, hs, rfl⟩ := x_of hx.1
    rw [nI_toInt hs] at hx
    exact ⟨s, by omega, rfl⟩
  · rintro ⟨s, hs, rfl⟩
    rw [nI_toInt (by omega)]
    omega
/-- a set of points: both see whether it is one -/
theorem rg_st {h : PH} (hi : iv_P h) (x : Int32) : (∃ s : Nat, s < 2 ^ hv_N h ∧ x = nI s ∧ (∀ g : PH, g.1 17 0 = h.1 17 0 → f_X11_isSetOfPoints x g = some 1) ∧ ∀ g : PH, g.1 43 19 = h.1 43 19 → f_X12_in x.toInt64 0 (((1 : Int64) <<< ((g.1 43 19).toInt64 &&& 63)) - 1) g = some 1) ∨ ((∀ g : PH, g.1 17 0 = h.1 17 0 → f_X11_isSetOfPoints x g = some 0) ∧ ∀ g : PH, g.1 43 19 = h.1 43 19 → f_X12_in x.toInt64 0 (((1 : Int64) <<< ((g.1 43 19).toInt64 &&& 63)) - 1) g = some 0) := by
  have z0 : (0 : Int64).toInt = 0 := rfl
  have w1 : h.1 17 0 = nI (hv_N h) := hi.1.1
  have w2 : hv_N h ≤ 8 := hi.1.2.1
  have w3 : h.1 43 19 = h.1 17 0 := hi.1.2.2
  by_cases hx : ∃ s, s < 2 ^ hv_N h ∧ x = nI s
  · left
    have hx' := hx
    obtain ⟨s, hs, rfl⟩ := hx'
    refine ⟨s, hs, rfl, fun g e => ?_, fun g e => ?_⟩
    · unfold f_X11_isSetOfPoints f_X6_all
      rw [e, w1, sh_all w2, pu_b1, if_pos ((set_in w2 _).mpr hx)]
    · rw [f_ini, e, w3, w1, sh_alll w2, z0, if_pos ((in_set w2 _).mpr hx)]
  · right
    refine ⟨fun g e => ?_, fun g e => ?_⟩
    · unfold f_X11_isSetOfPoints f_X6_all
      rw [e, w1, sh_all w2, pu_b1, if_neg (fun q => hx ((set_in w2 _).mp q))]
    · rw [f_ini, e, w3, w1, sh_alll w2, z0, if_neg (fun q => hx ((in_set w2 _).mp q))]
theorem o_reading {n : Nat} {h : PH} (hi : Inv n h) (x y : Int32) : ∃ r h1 h2, f_X11_reading x y h = some (r, h1) ∧ f_X12_reading x y h1 = some (r, h2) ∧ Inv (n + 1) h2 := by
  have hI := hi
  obtain ⟨hS, hF, hH, hX, hP, hW, hR, hC⟩ := hi
  have z0 : (0 : Int64).toInt = 0 := rfl
  have z2 : (200 : Int64).toInt = 200 := rfl
  rcases rg_st hP x with ⟨s, hs, rfl, w1, w2⟩ | ⟨w1, w2⟩
  · by_cases hy : 0 ≤ y.toInt ∧ y.toInt ≤ 200
    · obtain ⟨v, hv, rfl⟩ := x_of hy.1
      rw [nI_toInt hv] at hy
      have hv2 : v ≤ 200 := by omega
      have u2 : ∀ g : PH, f_X12_in (nI v).toInt64 0 200 g = some 1 := fun g => by rw [f_ini, nI_toInt hv, if_pos (by omega)]
      obtain ⟨⟨m1, m2, m3⟩, m4⟩ := hR
      by_cases hm : hv_M h < 12
      · refine ⟨nI (hv_M h), ph_i (ph_i (ph_i h 38 (hv_M h) (nI s)) 39 (hv_M h) (nI v)) 37 0 (nI (hv_M h + 1)), ph_i (ph_i (ph_i (ph_i (ph_i (ph_i h 38 (hv_M h) (nI s)) 39 (hv_M h) (nI v)) 37 0 (nI (hv_M h + 1))) 65 (hv_M h) (nI s)) 66 (hv_M h) (nI v)) 43 37 (nI (hv_M h + 1)), ?_, ?_, ?_⟩
        · have e1 : (ph_i h 38 (hv_M h) (nI s)).1 37 0 = nI (hv_M h) := by rw [pr_row, if_neg (by decide)]; exact m1
          have e2 : (ph_i (ph_i h 38 (hv_M h) (nI s)) 39 (hv_M h) (nI v)).1 37 0 = nI (hv_M h) := by rw [pr_row, if_neg (by decide), pr_row, if_neg (by decide)]; exact m1
          have hv3 : ¬ nI v < 0 := nI_pos hv
          have hv4 : nI v ≤ 200 := nI_le hv2 (by decide)
          have hm3 : nI (hv_M h) < 12 := nI_lt hm (by decide)
          have hcM : (nI (hv_M h)).toNatClampNeg = hv_M h := nI_clamp (by omega)
          simp only [f_X11_reading, w1 h rfl, pu_b1, hv3, hv4, m1, hm3, f_X4_add, pu_lt, pu_gn hm, hcM, e1, e2, pu_b2]
          simp (disch := omega) only [pu_lt, pu_b1, pu_b2, pu_gn, n_0, n_1, n_2, n_3, n_4, n_5, n_6, n_7, n_8, n_9, n_10, n_14, n_20, n_31, n_48, n_59, n_70, n_98, n_99, n_100, n_104, n_200, n_1000, n_1M, n_10M, nI_add, nI_sub, nI_mul, nI_div, nI_clamp, nI_leI, nI_ltI, nI_eq, nI_ng, nI_nl, nI_nlt2, nI_nlt3, and_self, and_true, true_and, and_false, false_and, or_true, true_or, or_false, false_or, if_true, if_false, ↓reduceIte, not_true_eq_false, not_false_eq_true, reduceCtorEq, pr_row, up_at, e1, e2, hcM, Nat.succ_ne_zero]
          rw [Nat.add_sub_cancel]
        · have hcM : (nI (hv_M h)).toNatClampNeg = hv_M h := nI_clamp (by omega)
          have hg : ∀ g : PH, g.1 43 = h.1 43 → g.1 43 37 = nI (hv_M h) := fun g e => by rw [e, m3]; exact m1
          have e0 : (ph_i (ph_i (ph_i h 38 (hv_M h) (nI s)) 39 (hv_M h) (nI v)) 37 0 (nI (hv_M h + 1))).1 43 37 = nI (hv_M h) := hg _ (by simp [pr_row])
          have e1 : (ph_i (ph_i (ph_i (ph_i h 38 (hv_M h) (nI s)) 39 (hv_M h) (nI v)) 37 0 (nI (hv_M h + 1))) 65 (hv_M h) (nI s)).1 43 37 = nI (hv_M h) := hg _ (by simp [pr_row])
          have e2 : (ph_i (ph_i (ph_i (ph_i (ph_i h 38 (hv_M h) (nI s)) 39 (hv_M h) (nI v)) 37 0 (nI (hv_M h + 1))) 65 (hv_M h) (nI s)) 66 (hv_M h) (nI v)).1 43 37 = nI (hv_M h) := hg _ (by simp [pr_row])
          have hm4 : ¬ nI (hv_M h) = 12 := fun q => by have := (nI_eq (show hv_M h < 2 ^ 31 by omega) (show 12 < 2 ^ 31 by decide)).mp q; omega
          simp only [f_X12_reading, w2 (ph_i (ph_i (ph_i h 38 (hv_M h) (nI s)) 39 (hv_M h) (nI v)) 37 0 (nI (hv_M h + 1))) (by simp [pr_row]), u2, pu_b1, pu_lt, e0, e1, e2, hcM, hm4, pu_gn hm]
          simp (disch := omega) only [pu_lt, pu_b1, pu_b2, pu_gn, n_0, n_1, n_2, n_3, n_4, n_5, n_6, n_7, n_8, n_9, n_10, n_14, n_20, n_31, n_48, n_59, n_70, n_98, n_99, n_100, n_104, n_200, n_1000, n_1M, n_10M, nI_add, nI_sub, nI_mul, nI_div, nI_clamp, nI_leI, nI_ltI, nI_eq, nI_ng, nI_nl, nI_nlt2, nI_nlt3, and_self, and_true, true_and, and_false, false_and, or_true, true_or, or_false, false_or, if_true, if_false, ↓reduceIte, not_true_eq_false, not_false_eq_true, reduceCtorEq, hm4, hcM, e1, e2, Nat.succ_ne_zero]
          simp only [pr_row, up_at, if_true]
          simp (disch := omega) only [pu_lt, pu_b1, pu_b2, pu_gn, n_0, n_1, n_2, n_3, n_4, n_5, n_6, n_7, n_8, n_9, n_10, n_14, n_20, n_31, n_48, n_59, n_70, n_98, n_99, n_100, n_104, n_200, n_1000, n_1M, n_10M, nI_add, nI_sub, nI_mul, nI_div, nI_clamp, nI_leI, nI_ltI, nI_eq, nI_ng, nI_nl, nI_nlt2, nI_nlt3, and_self, and_true, true_and, and_false, false_and, or_true, true_or, or_false, false_or, if_true, if_false, ↓reduceIte, not_true_eq_false, not_false_eq_true, reduceCtorEq, Nat.add_sub_cancel]
        · refine ⟨?_, ⟨?_, ?_⟩, ?_, ?_, ?_, ?_, ?_, ?_⟩
          · apply fr_S hS <;> simp [pr_row]
          · simp [pr_row, up_at, hF.1]
          · simp [pr_row, up_at, hF.2]
          · apply fr_H hH <;> simp [pr_row, up_at]
          · apply fr_X hX <;> simp [pr_row, up_at]
          · apply fr_P hP <;> simp [pr_row, up_at]
          · apply fr_W hW <;> first | exact big_i (by decide) (big_i (by decide) (big_i (by decide) (big_i (by decide) (big_i (by decide) (big_i (by decide) (fun _ _ => rfl)))))) | rfl | simp [pr_row, up_at]
          · generalize hg : ph_i (ph_i (ph_i (ph_i (ph_i (ph_i h 38 (hv_M h) (nI s)) 39 (hv_M h) (nI v)) 37 0 (nI (hv_M h + 1))) 65 (hv_M h) (nI s)) 66 (hv_M h) (nI v)) 43 37 (nI (hv_M h + 1)) = g
            have g37 : g.1 37 0 = nI (hv_M h + 1) := by subst hg; simp [pr_row, up_at]
            have g43 : g.1 43 37 = nI (hv_M h + 1) := by subst hg; simp [pr_row, up_at]
            have g17 : g.1 17 = h.1 17 := by subst hg; simp [pr_row, up_at]
            have g38 : ∀ j, g.1 38 j = if j = hv_M h then nI s else h.1 38 j := fun j => by subst hg; simp [pr_row, up_at]
            have g39 : ∀ j, g.1 39 j = if j = hv_M h then nI v else h.1 39 j := fun j => by subst hg; simp [pr_row, up_at]
            have g65 : ∀ j, g.1 65 j = if j = hv_M h then nI s else h.1 65 j := fun j => by subst hg; simp [pr_row, up_at]
            have g66 : ∀ j, g.1 66 j = if j = hv_M h then nI v else h.1 66 j := fun j => by subst hg; simp [pr_row, up_at]
            have gM : hv_M g = hv_M h + 1 := by unfold hv_M; rw [g37]; exact nI_clamp (by omega)
            have gN : hv_N g = hv_N h := by unfold hv_N; rw [g17]
            refine ⟨⟨by rw [g37, gM], by omega, by rw [g43, g37]⟩, fun j hj => ?_⟩
            rw [g38, g39, g65, g66, gN]
            by_cases hjm : j = hv_M h
            · simp only [hjm, if_true]
              exact ⟨trivial, trivial, ⟨s, hs, rfl⟩, ⟨v, hv2, rfl⟩⟩
            · simp only [hjm, if_false]
              exact m4 j (by omega)
          · exact fr_C hC (big_i (by decide) (big_i (by decide) (big_i (by decide) (big_i (by decide) (big_i (by decide) (big_i (by decide) (fun _ _ => rfl))))))) rfl
      · have hm12 : hv_M h = 12 := by omega
        have e37 : h.1 37 0 = 12 := by rw [m1, hm12]; rfl
        refine ⟨-4, h, h, ?_, ?_, inv_up hI⟩
        · simp [f_X11_reading, w1 h rfl, pu_b1, nI_pos hv, nI_le hv2 (show 200 < 2 ^ 31 by decide), e37]
          exact nI_le hv2 (by decide)
        · simp [f_X12_reading, w2 h rfl, u2, pu_b1, m3, e37]
    · have u2 : ∀ g : PH, f_X12_in y.toInt64 0 200 g = some 0 := fun g => by rw [f_ini, if_neg (by omega)]
      refine ⟨-2, h, h, ?_, ?_, inv_up hI⟩
      · unfold f_X11_reading
        rw [w1 h rfl, pu_b1, if_neg (by decide)]
        by_cases h0 : 0 ≤ y.toInt
        · have y2 : (200 : Int32).toInt = 200 := rfl
          rw [if_neg (nI_nlt0 h0), if_neg (by rw [i_le]; omega)]
        · rw [if_pos (nI_lt0 (by omega))]
      · simp [f_X12_reading, w2 h rfl, u2, pu_b1]
  · refine ⟨-2, h, h, ?_, ?_, inv_up hI⟩
    · simp [f_X11_reading, w1 h rfl, pu_b1]
    · simp [f_X12_reading, w2 h rfl, pu_b1]
theorem o_back {n : Nat} {h : PH} (hi : Inv n h) (x : Int32) : ∃ r h1 h2, f_X11_back x h = some (r, h1) ∧ f_X12_back x h1 = some (r, h2) ∧ Inv (n + 1) h2 := by
  have hI := hi
  obtain ⟨hS, hF, hH, hX, hP, hW, hR, hC⟩ := hi
  have z0 : (0 : Int64).toInt = 0 := rfl
  obtain ⟨⟨m1, m2, m3⟩, m4⟩ := hR
  by_cases hx : 0 ≤ x.toInt ∧ x.toInt ≤ hv_M h
  · obtain ⟨k, hk, rfl⟩ := x_of hx.1
    have hkM : k ≤ hv_M h := by rw [nI_toInt hk] at hx; omega
    refine ⟨nI (hv_M h - k), ph_i h 37 0 (nI (hv_M h - k)), ph_i (ph_i h 37 0 (nI (hv_M h - k))) 43 37 (nI (hv_M h - k)), ?_, ?_, ?_⟩
    · simp only [f_X11_back, m1]
      have h1 : nI k ≤ nI (hv_M h) := nI_le hkM (by omega)
      simp (disch := omega) only [pu_lt, pu_b1, pu_b2, pu_gn, n_0, n_1, n_2, n_3, n_4, n_5, n_6, n_7, n_8, n_9, n_10, n_14, n_20, n_31, n_48, n_59, n_70, n_98, n_99, n_100, n_104, n_200, n_1000, n_1M, n_10M, nI_add, nI_sub, nI_mul, nI_div, nI_clamp, nI_leI, nI_ltI, nI_eq, nI_ng, nI_nl, nI_nlt2, nI_nlt3, and_self, and_true, true_and, and_false, false_and, or_true, true_or, or_false, false_or, if_true, if_false, ↓reduceIte, not_true_eq_false, not_false_eq_true, reduceCtorEq, Nat.not_lt_zero, hkM, pr_row, up_at]
    · have e0 : (ph_i h 37 0 (nI (hv_M h - k))).1 43 37 = nI (hv_M h) := by rw [pr_row, if_neg (by decide), m3]; exact m1
      have e1 : f_X12_in (nI k).toInt64 0 ((nI (hv_M h)).toInt64) (ph_i h 37 0 (nI (hv_M h - k))) = some 1 := by
        rw [f_ini, i_l, nI_toInt hk, nI_toInt (by omega), if_pos (by omega)]
      simp only [f_X12_back, e0, e1]
      simp (disch := omega) only [pu_lt, pu_b1, pu_b2, pu_gn, n_0, n_1, n_2, n_3, n_4, n_5, n_6, n_7, n_8, n_9, n_10, n_14, n_20, n_31, n_48, n_59, n_70, n_98, n_99, n_100, n_104, n_200, n_1000, n_1M, n_10M, nI_add, nI_sub, nI_mul, nI_div, nI_clamp, nI_leI, nI_ltI, nI_eq, nI_ng, nI_nl, nI_nlt2, nI_nlt3, and_self, and_true, true_and, and_false, false_and, or_true, true_or, or_false, false_or, if_true, if_false, ↓reduceIte, not_true_eq_false, not_false_eq_true, reduceCtorEq, Nat.succ_ne_zero]
      simp [pr_row, up_at]
    · refine ⟨?_, ⟨?_, ?_⟩, ?_, ?_, ?_, ?_, ?_, ?_⟩
      · apply fr_S hS <;> simp [pr_row]
      · simp [pr_row, up_at, hF.1]
      · simp [pr_row, up_at, hF.2]
      · apply fr_H hH <;> simp [pr_row, up_at]
      · apply fr_X hX <;> simp [pr_row, up_at]
      · apply fr_P hP <;> simp [pr_row, up_at]
      · apply fr_W hW <;> first | exact big_i (by decide) (big_i (by decide) (fun _ _ => rfl)) | rfl | simp [pr_row, up_at]
      · generalize hg : ph_i (ph_i h 37 0 (nI (hv_M h - k))) 43 37 (nI (hv_M h - k)) = g
        have g37 : g.1 37 0 = nI (hv_M h - k) := by subst hg; simp [pr_row, up_at]
        have g43 : g.1 43 37 = nI (hv_M h - k) := by subst hg; simp [pr_row, up_at]
        have g17 : g.1 17 = h.1 17 := by subst hg; simp [pr_row, up_at]
        have g38 : g.1 38 = h.1 38 := by subst hg; simp [pr_row, up_at]
        have g39 : g.1 39 = h.1 39 := by subst hg; simp [pr_row, up_at]
        have g65 : g.1 65 = h.1 65 := by subst hg; simp [pr_row, up_at]
        have g66 : g.1 66 = h.1 66 := by subst hg; simp [pr_row, up_at]
        have gM : hv_M g = hv_M h - k := by unfold hv_M; rw [g37]; exact nI_clamp (by omega)
        have gN : hv_N g = hv_N h := by unfold hv_N; rw [g17]
        refine ⟨⟨by rw [g37, gM], by omega, by rw [g43, g37]⟩, fun j hj => ?_⟩
        rw [g38, g39, g65, g66, gN]
        exact m4 j (by omega)
      · exact fr_C hC (big_i (by decide) (big_i (by decide) (fun _ _ => rfl))) rfl
  · refine ⟨-2, h, h, ?_, ?_, inv_up hI⟩
    · unfold f_X11_back
      rw [m1]
      by_cases h0 : 0 ≤ x.toInt
      · rw [if_neg (nI_nlt0 h0), if_neg (by rw [i_le, nI_toInt (by omega)]; omega)]
      · rw [if_pos (nI_lt0 (by omega))]
    · unfold f_X12_back
      rw [m3, m1, f_ini, i_l, nI_toInt (by omega), if_neg (by omega), pu_b1, if_pos rfl]
