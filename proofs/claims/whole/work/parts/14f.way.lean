theorem fo_c2 {h g : PH} (hi : iv_S h) {k : Nat} (hk : k < 4) (l y z : Int32) (e2 : g.1 2 = h.1 2) (e3 : g.1 3 = h.1 3) : ∃ f : Nat, f ≤ 4 ∧ f_X8_faultOfCells (nI k) l y z g = some (nI f) ∧ (∀ g2 : PH, g2.1 67 = h.1 67 → g2.1 68 = h.1 68 → f_X12_barred (nI k) l y z.toInt64 g2 = some (if f = 0 then (0, g2) else (-10 - nI f, ph_i g2 43 0 (nI f)))) ∧ (f = 0 → ∃ m j c : Nat, m ≤ 100 ∧ h.1 3 k = nI m ∧ y = nI j ∧ z = nI c ∧ j + c ≤ m) := by
  obtain ⟨f, f1, f2, f3, f4⟩ := fo_cells hi hk l y z (g := g) (g2 := h) e2 e3 rfl rfl
  refine ⟨f, f1, f2, fun g2 a1 a2 => ?_, f4⟩
  obtain ⟨f', d1, d2, d3, d4⟩ := fo_cells hi hk l y z (g := g) (g2 := g2) e2 e3 a1 a2
  rw [f2] at d2
  have : f = f' := nI_inj (Option.some.inj d2) (by omega) (by omega)
  subst this
  exact d3
theorem neg10 {f : Nat} (h0 : f ≠ 0) (h4 : f ≤ 4) : ¬ (0 : Int32) ≤ -10 - nI f := by
  have : f = 1 ∨ f = 2 ∨ f = 3 ∨ f = 4 := by omega
  rcases this with rfl | rfl | rfl | rfl <;> decide
theorem l_mway3 {g : PH} {m sp W : Nat} (hm : m ≤ 6) (hW : W < 6) (hsp : sp + m ≤ 400) (h23 : g.1 43 23 = nI W) : lp_f (fun s => lb_X12_way_264 (nI m) (nI sp) s.1 s.2) fu_l (0, g) = some (nI m, ph_r g 61 (cf (g.1 69) (g.1 61) sp (6 * W) m)) := by
  have h0 : ((0 : Int32), g) = (fun i => (nI i, ph_r g 61 (cf (g.1 69) (g.1 61) sp (6 * W) i))) 0 := by
    show _ = (nI 0, _)
    rw [cf_0, ph_rid]
    rfl
  rw [h0]
  refine lp_cnt (fun i => (nI i, ph_r g 61 (cf (g.1 69) (g.1 61) sp (6 * W) i))) m _ (fun i hi => ?_) ?_ fu_l 0 (by omega) (by unfold fu_l; omega)
  · unfold lb_X12_way_264
    have h1 : ¬ m ≤ i := by omega
    simp (disch := omega) only [pu_lt, pu_b1, pu_b2, pu_gn, n_0, n_1, n_2, n_3, n_4, n_5, n_6, n_7, n_8, n_9, n_10, n_14, n_20, n_31, n_48, n_59, n_70, n_98, n_99, n_100, n_104, n_200, n_1000, n_1M, n_10M, nI_add, nI_sub, nI_mul, nI_div, nI_clamp, nI_leI, nI_ltI, nI_eq, nI_ng, nI_nl, nI_nlt2, nI_nlt3, and_self, and_true, true_and, and_false, false_and, or_true, true_or, or_false, false_or, if_true, if_false, ↓reduceIte, not_true_eq_false, not_false_eq_true, reduceCtorEq, h1, ph_ri, pr_rr, Nat.reduceEqDiff, h23, cf_s]
  · unfold lb_X12_way_264
    simp (disch := omega) only [pu_lt, pu_b1, pu_b2, pu_gn, n_0, n_1, n_2, n_3, n_4, n_5, n_6, n_7, n_8, n_9, n_10, n_14, n_20, n_31, n_48, n_59, n_70, n_98, n_99, n_100, n_104, n_200, n_1000, n_1M, n_10M, nI_add, nI_sub, nI_mul, nI_div, nI_clamp, nI_leI, nI_ltI, nI_eq, nI_ng, nI_nl, nI_nlt2, nI_nlt3, and_self, and_true, true_and, and_false, false_and, or_true, true_or, or_false, false_or, if_true, if_false, ↓reduceIte, not_true_eq_false, not_false_eq_true, reduceCtorEq, Nat.le_refl]
theorem al_c {h g : PH} (e : g.1 21 = h.1 21) (pt : Nat → Nat) : ∀ i, al g pt i = al h pt i
  | 0 => rfl
  | i + 1 => by
    show (al g pt i && gd g pt i) = (al h pt i && gd h pt i)
    rw [al_c e pt i]
    unfold gd
    rw [e]
theorem rg_fu (x : Int32) : (∃ v : Nat, 1 ≤ v ∧ v ≤ 99 ∧ x = nI v ∧ ¬ x < 1 ∧ ¬ 99 < x ∧ ∀ g : PH, f_X12_in x.toInt64 1 99 g = some 1) ∨ ((x < 1 ∨ (¬ x < 1 ∧ 99 < x)) ∧ ∀ g : PH, f_X12_in x.toInt64 1 99 g = some 0) := by
  have z1 : (1 : Int64).toInt = 1 := rfl
  have z2 : (99 : Int64).toInt = 99 := rfl
  have y1 : (1 : Int32).toInt = 1 := rfl
  have y2 : (99 : Int32).toInt = 99 := rfl
  by_cases hx : 1 ≤ x.toInt ∧ x.toInt ≤ 99
  · left
    obtain ⟨v, hv, rfl⟩ := x_of (show 0 ≤ x.toInt by omega)
    rw [nI_toInt hv] at hx
    exact ⟨v, by omega, by omega, rfl, by rw [i_lt, nI_toInt hv]; omega, by rw [i_lt, nI_toInt hv]; omega, fun g => by rw [f_ini, nI_toInt hv, if_pos (by omega)]⟩
  · right
    refine ⟨?_, fun g => by rw [f_ini, if_neg (by omega)]⟩
    by_cases h0 : x.toInt < 1
    · left; rw [i_lt]; omega
    · right; exact ⟨by rw [i_lt]; omega, by rw [i_lt]; omega⟩
theorem rg_kd (x : Int32) : (∃ v : Nat, v < 3 ∧ x = nI v ∧ (∀ g : PH, f_X11_isKind x g = some 1) ∧ ∀ g : PH, f_X12_in x.toInt64 0 2 g = some 1) ∨ ((∀ g : PH, f_X11_isKind x g = some 0) ∧ ∀ g : PH, f_X12_in x.toInt64 0 2 g = some 0) := by
  have z0 : (0 : Int64).toInt = 0 := rfl
  have z2 : (2 : Int64).toInt = 2 := rfl
  have y3 : (3 : Int32).toInt = 3 := rfl
  by_cases hx : 0 ≤ x.toInt ∧ x.toInt < 3
  · left
    obtain ⟨t, ht, rfl⟩ := ix_of hx.1 (n := 3) (by omega) (by decide)
    refine ⟨t, ht, rfl, fun g => ?_, fun g => by rw [f_ini, nI_toInt (by omega), if_pos (by omega)]⟩
    unfold f_X11_isKind
    rw [if_neg (nI_pos (by omega)), if_neg (show ¬ (3 : Int32) ≤ nI t from nI_ge ht (by decide))]
  · right
    refine ⟨fun g => ?_, fun g => by rw [f_ini, if_neg (by omega)]⟩
    unfold f_X11_isKind
    by_cases h0 : 0 ≤ x.toInt
    · rw [if_neg (nI_nlt0 h0), if_pos (by rw [i_le]; omega)]
    · rw [if_pos (nI_lt0 (by omega))]
theorem in_16 {m : Nat} (hm : m < 2 ^ 31) (g : PH) : f_X12_in (nI m).toInt64 1 6 g = some (if 1 ≤ m ∧ m ≤ 6 then 1 else 0) := by
  have z1 : (1 : Int64).toInt = 1 := rfl
  have z6 : (6 : Int64).toInt = 6 := rfl
  rw [f_ini, nI_toInt hm]
  by_cases h : 1 ≤ m ∧ m ≤ 6
  · rw [if_pos h, if_pos (by omega)]
  · rw [if_neg h, if_neg (by omega)]
theorem inv_flt2 {n : Nat} {h : PH} (hi : Inv n h) (u v : Int32) : Inv (n + 1) (ph_i (ph_i (ph_i h 0 11 u) 0 11 v) 43 0 v) := by
  rw [ph_ii h 0 11 u v]
  exact inv_flt hi v
def wm_5 (L : PH) (W kd fu m sp : Nat) : PH := ph_r (ph_i (ph_i (ph_i (ph_i L 57 W 1) 58 W (nI kd)) 59 W (nI fu)) 60 W (nI m)) 61 (cf (L.1 69) (L.1 61) sp (6 * W) m)
def wm_7 (L : PH) (W kd fu m sp : Nat) : PH := ph_i (ph_i (wm_5 L W kd fu m sp) 43 23 (nI (W + 1))) 43 0 0
theorem inv_way {n : Nat} {h : PH} {kd fu m sp N0 : Nat} (hi : Inv n h) (pt : Nat → Nat) (hkd : kd < 3) (hfu1 : 1 ≤ fu) (hfu2 : fu ≤ 99) (hm1 : 1 ≤ m) (hm2 : m ≤ 6) (hW6 : hv_W h < 6) (hpt : ∀ i, i < m → pt i < hv_N h ∧ h.1 4 (sp + i) = nI (pt i)) (hal : al h pt m = true) (hN0 : (l0_B ++ h.2.2.2).length = N0) (hN2 : 71 ≤ N0) : Inv (n + 1) (wm_7 (lw_C (ph_i h 0 11 0) N0 m sp kd (hv_W h) (nI fu) pt) (hv_W h) kd fu m sp) := by
  obtain ⟨hS, hF, hH, hX, hP, hW, hR, hC⟩ := hi
  obtain ⟨L, eL⟩ : ∃ L, L = lw_C (ph_i h 0 11 0) N0 m sp kd (hv_W h) (nI fu) pt := ⟨_, rfl⟩
  have hN0' : (l0_B ++ (ph_i h 0 11 0).2.2.2).length = N0 := hN0
  have hwf : wf_H l0_B (ph_i h 0 11 0) := wf_frame (big_i (by decide) (fun _ _ => rfl)) rfl hC.2
  have wfL : wf_H l0_B L := by rw [eL]; exact lwC_wf (nI fu) pt hwf hN0' hN2
  have L1 : ∀ b, b ≠ 0 → b ≠ 21 → b ≠ N0 → b ≠ N0 + 1 → L.1 b = h.1 b := by
    intro b b0 b21 bN bN1
    rw [eL]
    unfold lw_C
    rw [pr_ne b0, pr_rn b21, lwB_row bN bN1, pr_ne b0]
  have L21 : L.1 21 = ow (h.1 21) pt (nI (hv_W h)) m := by
    rw [eL]
    unfold lw_C
    rw [pr_ne (by decide), pr_re, pr_ne (by decide)]
  have L0 : ∀ j, L.1 0 j = if j = 5 then nI (hv_W h + 1) else if j = 11 then 0 else h.1 0 j := by
    intro j
    rw [eL]
    unfold lw_C
    rw [pr_eq, pr_rn (by decide), lwB_row (by omega) (by omega), pr_eq]
  have LN0 : ∀ j, j < m → L.1 N0 j = nI (pt j) := by
    intro j hj
    rw [eL]
    unfold lw_C
    rw [pr_ne (by omega), pr_rn (by omega), lwB_N0, lwA_new hN2 hj, pr_ne (by decide)]
    exact (hpt j hj).2
  have LN1 : L.1 (N0 + 1) 0 = nI (hv_W h) ∧ L.1 (N0 + 1) 1 = nI fu ∧ L.1 (N0 + 1) 2 = 1 := by
    rw [eL]
    unfold lw_C
    rw [pr_ne (by omega), pr_rn (by omega)]
    exact lwB_N1
  have L22 : ∀ x, L.2.2.1 22 x = if x = hv_W h then some (N0 + 1) else h.2.2.1 22 x := by
    intro x
    rw [eL]
    show up_R (up_R (up_R h.2.2.1 N0 (fun _ => none)) (N0 + 1) (fun _ => none)) 22 (va_up (up_R (up_R h.2.2.1 N0 (fun _ => none)) (N0 + 1) (fun _ => none) 22) (hv_W h) (some (N0 + 1))) 22 x = _
    rw [up_R_s]
    unfold va_up
    by_cases hx : x = hv_W h
    · rw [if_pos hx, if_pos hx]
    · rw [if_neg hx, if_neg hx]
      unfold up_R
      rw [if_neg (by omega), if_neg (by omega)]
  have L3 : L.2.2.2 = h.2.2.2 ++ [Sum.inl (0, m), Sum.inr (ciK kd, [(0, 0), (0, 0), (2, N0)])] := by
    rw [eL]
    show (h.2.2.2 ++ [Sum.inl (0, m)]) ++ [Sum.inr (ciK kd, [(0, 0), (0, 0), (2, N0)])] = _
    simp [List.append_assoc]
  have Lch : ∀ g2 : PH, g2.2.2.2 = L.2.2.2 → ch_at g2 (N0 + 1) = some (ciK kd, N0, m) := by
    intro g2 e
    rw [eL] at e
    exact lwC_ch (nI fu) pt hN0' hkd e
  rw [← eL]
  clear eL
  obtain ⟨g, eg⟩ : ∃ g, g = wm_7 L (hv_W h) kd fu m sp := ⟨_, rfl⟩
  have G1 : ∀ b, b ≠ 43 → b ≠ 57 → b ≠ 58 → b ≠ 59 → b ≠ 60 → b ≠ 61 → g.1 b = L.1 b := by
    intro b b1 b2 b3 b4 b5 b6
    rw [eg]
    unfold wm_7 wm_5
    rw [pr_ne b1, pr_ne b1, pr_rn b6, pr_ne b5, pr_ne b4, pr_ne b3, pr_ne b2]
  have G2 : ∀ b, b < 71 → b ≠ 0 → b ≠ 21 → b ≠ 43 → b ≠ 57 → b ≠ 58 → b ≠ 59 → b ≠ 60 → b ≠ 61 → g.1 b = h.1 b := by
    intro b b0 b1 b2 b3 b4 b5 b6 b7 b8
    rw [G1 b b3 b4 b5 b6 b7 b8, L1 b b1 b2 (by omega) (by omega)]
  have G3 : ∀ b, 71 ≤ b → b < N0 → g.1 b = h.1 b := by
    intro b b0 b1
    rw [G1 b (by omega) (by omega) (by omega) (by omega) (by omega) (by omega), L1 b (by omega) (by omega) (by omega) (by omega)]
  have G43 : ∀ j, g.1 43 j = if j = 0 then 0 else if j = 23 then nI (hv_W h + 1) else h.1 43 j := by
    intro j
    rw [eg]
    unfold wm_7 wm_5
    rw [pr_eq, pr_eq, pr_rn (by decide), pr_ne (by decide), pr_ne (by decide), pr_ne (by decide), pr_ne (by decide), L1 43 (by decide) (by decide) (by omega) (by omega)]
  have G57 : ∀ j, g.1 57 j = if j = hv_W h then 1 else h.1 57 j := by
    intro j
    rw [eg]
    unfold wm_7 wm_5
    rw [pr_ne (by decide), pr_ne (by decide), pr_rn (by decide), pr_ne (by decide), pr_ne (by decide), pr_ne (by decide), pr_eq, L1 57 (by decide) (by decide) (by omega) (by omega)]
  have G58 : ∀ j, g.1 58 j = if j = hv_W h then nI kd else h.1 58 j := by
    intro j
    rw [eg]
    unfold wm_7 wm_5
    rw [pr_ne (by decide), pr_ne (by decide), pr_rn (by decide), pr_ne (by decide), pr_ne (by decide), pr_eq, pr_ne (by decide), L1 58 (by decide) (by decide) (by omega) (by omega)]
  have G59 : ∀ j, g.1 59 j = if j = hv_W h then nI fu else h.1 59 j := by
    intro j
    rw [eg]
    unfold wm_7 wm_5
    rw [pr_ne (by decide), pr_ne (by decide), pr_rn (by decide), pr_ne (by decide), pr_eq, pr_ne (by decide), pr_ne (by decide), L1 59 (by decide) (by decide) (by omega) (by omega)]
  have G60 : ∀ j, g.1 60 j = if j = hv_W h then nI m else h.1 60 j := by
    intro j
    rw [eg]
    unfold wm_7 wm_5
    rw [pr_ne (by decide), pr_ne (by decide), pr_rn (by decide), pr_eq, pr_ne (by decide), pr_ne (by decide), pr_ne (by decide), L1 60 (by decide) (by decide) (by omega) (by omega)]
  have G61 : g.1 61 = cf (h.1 4) (h.1 61) sp (6 * hv_W h) m := by
    rw [eg]
    unfold wm_7 wm_5
    rw [pr_ne (by decide), pr_ne (by decide), pr_re, L1 69 (by decide) (by decide) (by omega) (by omega), L1 61 (by decide) (by decide) (by omega) (by omega), hS.1]
  have Gl : g.2.2 = L.2.2 := by rw [eg]; rfl
  have wfg : wf_H l0_B g := by
    refine wf_frame (h := L) (fun a ha => ?_) Gl wfL
    exact G1 a (by omega) (by omega) (by omega) (by omega) (by omega) (by omega)
  have G0 : g.1 0 = L.1 0 := G1 0 (by decide) (by decide) (by decide) (by decide) (by decide) (by decide)
  have G21 : g.1 21 = ow (h.1 21) pt (nI (hv_W h)) m := by rw [G1 21 (by decide) (by decide) (by decide) (by decide) (by decide) (by decide), L21]
  rw [← eg]
  clear eg
  -- the new points were nobody's
  have hfree : ∀ j, j < m → h.1 21 (pt j) = -9 := by
    intro j hj
    have := al_all.mp hal j hj
    unfold gd at this
    rw [Bool.and_eq_true, beq_iff_eq] at this
    exact this.1
  have hdist : ∀ i j, i < m → j < m → pt i = pt j → i = j := by
    have key : ∀ i j, i < j → j < m → pt i ≠ pt j := by
      intro i j hij hj hq
      have := al_all.mp hal j hj
      unfold gd at this
      rw [Bool.and_eq_true, Bool.not_eq_true'] at this
      have h2 : (ts pt j).testBit (pt j) = true := ts_bit.mpr ⟨i, hij, hq⟩
      rw [h2] at this
      exact absurd this.2 (by decide)
    intro i j hi hj hq
    rcases Nat.lt_trichotomy i j with q | q | q
    · exact absurd hq (key i j q hj)
    · exact q
    · exact absurd hq.symm (key j i q hi)
  have hout : ∀ p x, h.1 21 p = nI x → x < 2 ^ 31 → g.1 21 p = nI x := by
    intro p x hp hx
    rw [G21, ow_out (fun j hj hq => ?_)]
    · exact hp
    · have := hfree j hj
      rw [hq, hp] at this
      have n9 := nI_ng hx (show 0 < 9 by decide) (show 9 < 2 ^ 31 by decide)
      rw [← n9]
      exact this
  obtain ⟨a1, a2, a3, a4⟩ := hW
  have gW : hv_W g = hv_W h + 1 := by
    unfold hv_W
    rw [G0, L0, if_pos rfl]
    exact nI_clamp (by show hv_W h + 1 < _; omega)
  have g17 : g.1 17 = h.1 17 := by apply G2 <;> decide
  have g10 : g.1 10 = h.1 10 := by apply G2 <;> decide
  have gN : hv_N g = hv_N h := by unfold hv_N; rw [g17]
  have ew : ∀ x o ci a m, x < hv_W h → iv_w h x o ci a m → iv_w g x o ci a m := by
    intro x o ci a m2 hxW hw
    obtain ⟨q1, q2, q3, q4, q5, q6, q7, q8, q9, q10, q11, q12, q13, q14, q15⟩ := hw
    obtain ⟨l1, l2⟩ := ch_lt q3
    have hxn : x ≠ hv_W h := by omega
    unfold iv_w
    rw [Gl, L22, if_neg hxn, G57, if_neg hxn, ch_app (g := g) q3 (by rw [Gl]; exact L3), G3 o q4 (by omega), G3 a q5 (by omega), gN, G58, if_neg hxn, G59, if_neg hxn, G60, if_neg hxn, G61]
    refine ⟨q1, q2, rfl, q4, q5, q6, q7, q8, q9, q10, q11, q12, q13, fun j hj => ?_, q15⟩
    obtain ⟨p, p1, p2, p3, p4⟩ := q14 j hj
    refine ⟨p, p1, p2, ?_, hout p x p4 (by omega)⟩
    unfold cf
    rw [if_neg (by omega)]
    exact p3
  have enew : iv_w g (hv_W h) (N0 + 1) (ciK kd) N0 m := by
    unfold iv_w
    rw [Gl, L22, if_pos rfl, G57, if_pos rfl, Lch g (by rw [Gl]), G58, if_pos rfl, G59, if_pos rfl, G60, if_pos rfl, G61, gN, G1 N0 (by omega) (by omega) (by omega) (by omega) (by omega) (by omega), G1 (N0 + 1) (by omega) (by omega) (by omega) (by omega) (by omega) (by omega), LN1.1, LN1.2.1, LN1.2.2]
    refine ⟨rfl, rfl, rfl, by omega, hN2, by decide, rfl, rfl, ⟨fu, hfu1, hfu2, rfl⟩, ?_, hm1, hm2, rfl, fun j hj => ⟨pt j, (hpt j hj).1, LN0 j hj, ?_, ?_⟩, fun i j hi hj hq => ?_⟩
    · have hk : kd = 0 ∨ kd = 1 ∨ kd = 2 := by omega
      rcases hk with rfl | rfl | rfl
      · exact Or.inl ⟨rfl, rfl⟩
      · exact Or.inr (Or.inl ⟨rfl, rfl⟩)
      · exact Or.inr (Or.inr ⟨rfl, rfl⟩)
    · unfold cf
      rw [if_pos (by omega), Nat.add_sub_cancel_left]
      exact (hpt j hj).2
    · rw [G21]
      exact ow_in hj
    · rw [LN0 i hi, LN0 j hj] at hq
      have h8 := hP.1.2.1
      have b1 := (hpt i hi).1
      have b2 := (hpt j hj).1
      exact hdist i j hi hj (nI_inj hq (by omega) (by omega))
  refine ⟨?_, ⟨?_, ?_⟩, ?_, ?_, ?_, ⟨?_, ?_, ?_, ?_⟩, ?_, ⟨?_, wfg⟩⟩
  · apply fr_S hS <;> (apply G2 <;> decide)
  · rw [G0, L0, if_neg (by decide), if_pos rfl, G43, if_pos rfl]
  · rw [G2 42 (by decide) (by decide) (by decide) (by decide) (by decide) (by decide) (by decide) (by decide) (by decide), G43, if_neg (by decide), if_neg (by decide)]
    exact hF.2
  · apply fr_H hH <;> first | (apply G2 <;> decide) | (rw [G43, if_neg (by decide), if_neg (by decide)])
  · apply fr_X hX <;> first | (apply G2 <;> decide) | (apply congrFun; apply G2 <;> decide)
  · apply fr_P hP <;> first | (apply G2 <;> decide) | (apply congrFun; apply G2 <;> decide) | (rw [G43, if_neg (by decide), if_neg (by decide)])
  · rw [gW, G0, L0, if_pos rfl, G43, if_neg (by decide), if_pos rfl]
    exact ⟨rfl, by omega, rfl⟩
  · intro x hx
    rw [gW] at hx
    rw [Gl, L22, if_neg (by omega)]
    exact a2 x (by omega)
  · intro x hx
    rw [gW] at hx
    by_cases hxn : x = hv_W h
    · subst hxn
      exact Or.inr ⟨_, _, _, _, enew⟩
    · rcases a3 x (by omega) with ⟨q1, q2⟩ | ⟨o, ci, a, m, q⟩
      · left
        rw [Gl, L22, if_neg hxn, G57, if_neg hxn]
        exact ⟨q1, q2⟩
      · exact Or.inr ⟨o, ci, a, m, ew x o ci a m (by omega) q⟩
  · intro p hp
    rw [gN] at hp
    rw [gW]
    by_cases hin : ∃ j, j < m ∧ pt j = p
    · obtain ⟨j, hj, hjp⟩ := hin
      refine Or.inr ⟨hv_W h, N0 + 1, ciK kd, N0, m, j, by omega, enew, hj, ?_⟩
      rw [G1 N0 (by omega) (by omega) (by omega) (by omega) (by omega) (by omega), LN0 j hj, hjp]
    · have e21 : g.1 21 p = h.1 21 p := by
        rw [G21]
        exact ow_out (fun j hj hq => hin ⟨j, hj, hq⟩)
      rw [e21]
      rcases a4 p hp with q | ⟨x, o, ci, a, m2, k, q1, q2, q3, q4⟩
      · exact Or.inl q
      · refine Or.inr ⟨x, o, ci, a, m2, k, by omega, ew x o ci a m2 q1 q2, q3, ?_⟩
        have l2 := (ch_lt q2.2.2.1).2
        rw [G3 a q2.2.2.2.2.1 (by omega)]
        exact q4
  · apply fr_R hR <;> first | (apply G2 <;> decide) | (apply congrFun; apply G2 <;> decide) | (rw [G43, if_neg (by decide), if_neg (by decide)])
  · rw [Gl, L3, List.length_append]
    have := hC.1
    show h.2.2.2.length + 2 ≤ 2 * (n + 1)
    omega
theorem o_way {n : Nat} {h : PH} (hi : Inv n h) (hn : n ≤ 512) (x y z u v w : Int32) : ∃ r h1 h2, f_X11_way x y z u v w h = some (r, h1) ∧ f_X12_way x y z u v w h1 = some (r, h2) ∧ Inv (n + 1) h2 := by
  have hI := hi
  obtain ⟨hS, hF, hH, hX, hP, hW, hR, hC⟩ := hi
  by_cases hs : 0 ≤ z.toInt ∧ z.toInt < 4
  rotate_left
  · refine ⟨-1, ph_i h 0 11 0, ph_i (ph_i h 0 11 0) 43 0 0, ?_, ?_, inv_flt hI 0⟩
    · simp [f_X11_way, s_isSheet, hs, pu_lt, pu_b1]
    · simp [f_X12_way, m_noSheet, hs, pu_b1, m_refused, pu_b2]
  obtain ⟨k, hk, rfl⟩ := sh_in hs
  rcases rg_kd x with ⟨kd, hkd, rfl, kA, kB⟩ | ⟨kA, kB⟩
  rotate_left
  · refine ⟨-2, ph_i h 0 11 0, ph_i (ph_i h 0 11 0) 43 0 0, ?_, ?_, inv_flt hI 0⟩
    · simp [f_X11_way, s_isSheet, hs, pu_lt, pu_b1, kA]
    · simp [f_X12_way, m_noSheet, hs, pu_b1, m_refused, pu_b2, kB]
  rcases rg_fu y with ⟨fu, hfu1, hfu2, rfl, fA, fB, fC⟩ | ⟨fA, fC⟩
  rotate_left
  · refine ⟨-2, ph_i h 0 11 0, ph_i (ph_i h 0 11 0) 43 0 0, ?_, ?_, inv_flt hI 0⟩
    · rcases fA with q | ⟨q1, q2⟩
      · simp [f_X11_way, s_isSheet, hs, pu_lt, pu_b1, kA, q]
      · simp [f_X11_way, s_isSheet, hs, pu_lt, pu_b1, kA, q1, q2]
    · simp [f_X12_way, m_noSheet, hs, pu_b1, m_refused, pu_b2, kB, fC]
  by_cases hl : 0 ≤ u.toInt ∧ u.toInt < 3
  rotate_left
  · refine ⟨-2, ph_i h 0 11 0, ph_i (ph_i h 0 11 0) 43 0 0, ?_, ?_, inv_flt hI 0⟩
    · simp [f_X11_way, s_isSheet, s_isLane, hs, hl, pu_lt, pu_b1, kA, fA, fB]
    · simp [f_X12_way, m_noSheet, m_isLane, hs, hl, pu_b1, m_refused, pu_b2, kB, fC]
  obtain ⟨f, hf4, fo1, fo2, fo3⟩ := fo_c2 hS hk u v w (g := ph_i h 0 11 0) (by simp [pr_row]) (by simp [pr_row])
  by_cases hf : f = 0
  rotate_left
  · have hf' : ¬ nI f = 0 := nI_ne0 (Nat.pos_of_ne_zero hf) (Nat.lt_of_le_of_lt hf4 (by decide))
    refine ⟨-10 - nI f, ph_i (ph_i h 0 11 0) 0 11 (nI f), ph_i (ph_i (ph_i h 0 11 0) 0 11 (nI f)) 43 0 (nI f), ?_, ?_, inv_flt2 hI 0 (nI f)⟩
    · unfold f_X11_way
      rw [pu_lt, s_isSheet, if_pos hs, pu_b1, if_neg (show ¬ (1 : Int32) = 0 by decide), kA, pu_b1, if_neg (show ¬ (1 : Int32) = 0 by decide), if_neg fA, if_neg fB, s_isLane, if_pos hl, pu_b1, if_neg (show ¬ (1 : Int32) = 0 by decide), fo1, pu_b1, if_neg hf', s_faulty, pu_b2]
    · unfold f_X12_way
      rw [m_noSheet, if_pos hs, pu_b1, if_pos (show (0 : Int32) = 0 from rfl), kB, pu_b1, if_neg (show ¬ (1 : Int32) = 0 by decide), fC, pu_b1, if_neg (show ¬ (1 : Int32) = 0 by decide), m_isLane, if_pos hl, pu_b1, if_neg (show ¬ (1 : Int32) = 0 by decide), fo2 (ph_i (ph_i h 0 11 0) 0 11 (nI f)) (by simp [pr_row]) (by simp [pr_row]), if_neg hf, pu_b2, if_neg (neg10 hf hf4)]
  subst hf
  obtain ⟨ln, j, m, hln, hlen, rfl, rfl, hjm⟩ := fo3 rfl
  have fo2' : ∀ g2 : PH, g2.1 67 = h.1 67 → g2.1 68 = h.1 68 → f_X12_barred (nI k) u (nI j) (nI m).toInt64 g2 = some (0, g2) := fun g2 a1 a2 => fo2 g2 a1 a2
  have fo1' : f_X8_faultOfCells (nI k) u (nI j) (nI m) (ph_i h 0 11 0) = some 0 := fo1
  have hm31 : m < 2 ^ 31 := by omega
  by_cases hm : 1 ≤ m ∧ m ≤ 6
  rotate_left
  · have t1 : ∀ g : PH, f_X12_in (nI m).toInt64 1 6 g = some 0 := fun g => by rw [in_16 hm31, if_neg hm]
    refine ⟨-2, ph_i h 0 11 0, ph_i (ph_i h 0 11 0) 43 0 0, ?_, ?_, inv_flt hI 0⟩
    · by_cases hm1 : m < 1
      · have q : nI m < 1 := show nI m < nI 1 from nI_lt hm1 (by decide)
        simp [f_X11_way, s_isSheet, s_isLane, hs, hl, pu_lt, pu_b1, kA, fA, fB, fo1', q]
      · have q : ¬ nI m < 1 := show ¬ nI m < nI 1 from nI_nlt (by omega) hm31
        have q2 : ¬ nI m ≤ 6 := show ¬ nI m ≤ nI 6 from nI_ge (by omega) hm31
        simp [f_X11_way, s_isSheet, s_isLane, hs, hl, pu_lt, pu_b1, kA, fA, fB, fo1', q, q2]
    · simp [f_X12_way, m_noSheet, m_isLane, hs, hl, pu_b1, kB, fC, fo2' (ph_i h 0 11 0) (by simp [pr_row]) (by simp [pr_row]), pu_b2, t1, m_refused]
  have tn : ∀ g : PH, f_X12_in (nI m).toInt64 1 6 g = some 1 := fun g => by rw [in_16 hm31, if_pos hm]
  have q1 : ¬ nI m < 1 := show ¬ nI m < nI 1 from nI_nlt hm.1 hm31
  have q2 : nI m ≤ 6 := show nI m ≤ nI 6 from nI_le hm.2 (by decide)
  have sp1 : nI k * 100 + nI j = nI (k * 100 + j) := by
    show nI k * nI 100 + nI j = _
    rw [nI_mul, nI_add]
  have sp2 : 100 * nI k + nI j = nI (k * 100 + j) := by
    show nI 100 * nI k + nI j = _
    rw [nI_mul, nI_add, Nat.mul_comm]
  have hN8 : hv_N h ≤ 8 := hP.1.2.1
  -- class and reference, before the points are looked at
  have cl : f_X11_way (nI kd) (nI fu) (nI k) u (nI j) (nI m) h = bd_1 (f_X6_refusalOf (nI (k * 100 + j)) (nI m) (ph_i h 0 11 0)) fun r_7 => if r_7 = 0 then (if (ph_i h 0 11 0).1 0 5 < 6 then bd_2 (f_X11_layWay (nI kd) (nI fu) (nI (k * 100 + j)) (nI m) (ph_i h 0 11 0)) fun r_9 h_10 => some (r_9, h_10) else some (-4, ph_i h 0 11 0)) else some (r_7, ph_i h 0 11 0) := by
    unfold f_X11_way f_X8_spot
    rw [pu_lt, s_isSheet, if_pos hs, pu_b1, if_neg (show ¬ (1 : Int32) = 0 by decide), kA, pu_b1, if_neg (show ¬ (1 : Int32) = 0 by decide), if_neg fA, if_neg fB, s_isLane, if_pos hl, pu_b1, if_neg (show ¬ (1 : Int32) = 0 by decide), fo1', pu_b1, if_pos (show (0 : Int32) = 0 from rfl), if_neg q1, if_pos q2, sp1, pu_b1]
    rfl
  have hsp : k * 100 + j + m ≤ 400 := by omega
  have g17 : (ph_i h 0 11 0).1 17 0 = nI (hv_N h) := by rw [pr_row, if_neg (by decide)]; exact hP.1.1
  have g4 : (ph_i h 0 11 0).1 4 = h.1 4 := by simp [pr_row]
  -- are all of them points
  by_cases hpts : ∃ i0, i0 < m ∧ (f_X6_isPoint (h.1 4 (k * 100 + j + i0)) h = some 0) ∧ ∀ i, i < i0 → ∃ p, p < hv_N h ∧ h.1 4 (k * 100 + j + i) = nI p
  · obtain ⟨i0, hi0, hno, hyes⟩ := hpts
    have hpt : ∀ i, i < i0 → (h.1 4 (k * 100 + j + i)).toNatClampNeg < hv_N h ∧ h.1 4 (k * 100 + j + i) = nI ((h.1 4 (k * 100 + j + i)).toNatClampNeg) := by
      intro i hi
      obtain ⟨p, p1, p2⟩ := hyes i hi
      rw [p2, nI_clamp (by omega)]
      exact ⟨p1, rfl⟩
    have hno2 : ∀ g : PH, g.1 17 0 = h.1 17 0 → f_X6_isPoint (h.1 4 (k * 100 + j + i0)) g = some 0 := by
      intro g e
      rw [← hno]
      unfold f_X6_isPoint
      rw [e]
    have hno3 : ∀ g : PH, g.1 43 19 = h.1 43 19 → f_X12_noPoint (h.1 4 (k * 100 + j + i0)) g = some 1 := by
      intro g e
      rcases rg_pt hP (h.1 4 (k * 100 + j + i0)) with ⟨k', _, _, _, r1, r2⟩ | ⟨r1, r2⟩
      · exfalso
        rw [r1 h rfl] at hno
        exact absurd hno (by decide)
      · exact r2 g e
    refine ⟨-1, ph_i h 0 11 0, ph_i (ph_i h 0 11 0) 43 0 0, ?_, ?_, inv_flt hI 0⟩
    · rw [cl]
      have : f_X6_refusalOf (nI (k * 100 + j)) (nI m) (ph_i h 0 11 0) = some (-1) := by
        unfold f_X6_refusalOf
        rw [l_ref1n (N := hv_N h) (i0 := i0) (fun i => (h.1 4 (k * 100 + j + i)).toNatClampNeg) hm.2 hsp g17 hN8 hi0 (fun i hi => by rw [g4]; exact hpt i hi) (by rw [g4]; exact hno2 _ (by simp [pr_row])), pu_b1]
        rfl
      rw [this, pu_b1, if_neg (by decide)]
    · simp only [f_X12_way, m_noSheet, m_isLane, hs, hl, pu_b1, kB, fC, fo2' (ph_i h 0 11 0) (by simp [pr_row]) (by simp [pr_row]), pu_b2, tn, pu_lt, sp2]
      have e69 : (ph_i h 0 11 0).1 69 = h.1 4 := by simp [pr_row, hS.1]
      rw [l_mway (h := h) (e := i0) (r := .inl (-1, ph_i (ph_i h 0 11 0) 43 0 0)) (nI kd) (nI fu) (fun i => (h.1 4 (k * 100 + j + i)).toNatClampNeg) hW hP hm.2 (by omega) hsp (by simp [pr_row]) (by simp [pr_row]) (by simp [pr_row]) (by simp [pr_row]) (fun i hi => by rw [e69]; exact hpt i hi) (by
        unfold lb_X12_way_112
        rw [if_neg (nI_ge hi0 (by omega)), nI_add, pu_gn (show k * 100 + j + i0 < 400 by omega) (by decide), nI_clamp (by omega), pu_lt, e69, hno3 _ (by simp [pr_row]), pu_b1, if_neg (by decide), m_refused, pu_b2])]
      simp [sw_b, pu_b1]
  · have hall : ∀ i, i ≤ m → ∀ i', i' < i → ∃ p, p < hv_N h ∧ h.1 4 (k * 100 + j + i') = nI p := by
      intro i
      induction i with
      | zero => intro _ i' hi'; omega
      | succ i ih =>
        intro him i' hi'
        by_cases hii : i' = i
        · subst hii
          rcases rg_pt hP (h.1 4 (k * 100 + j + i')) with ⟨p, p1, _, p2, _, _⟩ | ⟨r1, r2⟩
          · exact ⟨p, p1, p2⟩
          · exact absurd ⟨i', by omega, r1 h rfl, ih (by omega)⟩ hpts
        · exact ih (by omega) i' (by omega)
    obtain ⟨pt, hptd⟩ : ∃ pt : Nat → Nat, pt = fun i => (h.1 4 (k * 100 + j + i)).toNatClampNeg := ⟨_, rfl⟩
    have hpt : ∀ i, i < m → pt i < hv_N h ∧ h.1 4 (k * 100 + j + i) = nI (pt i) := by
      intro i hi
      obtain ⟨p, p1, p2⟩ := hall m (Nat.le_refl _) i hi
      rw [hptd]
      show (h.1 4 (k * 100 + j + i)).toNatClampNeg < _ ∧ h.1 4 (k * 100 + j + i) = nI ((h.1 4 (k * 100 + j + i)).toNatClampNeg)
      rw [p2, nI_clamp (by omega)]
      exact ⟨p1, rfl⟩
    have e69 : (ph_i h 0 11 0).1 69 = h.1 4 := by simp [pr_row, hS.1]
    have g21 : (ph_i h 0 11 0).1 21 = h.1 21 := by simp [pr_row]
    have mdl : ∀ g : PH, g.1 43 = h.1 43 → g.1 57 = h.1 57 → g.1 60 = h.1 60 → g.1 61 = h.1 61 → g.1 69 = h.1 4 → lp_f (fun s => lb_X12_way_112 (nI kd) (nI fu) (nI m) (nI (k * 100 + j)) s.1 s.2.1 s.2.2.1 s.2.2.2) fu_l (0, 1, 0, g) = some (.inr (nI (ts pt m), (if al h pt m then 1 else 0), nI m, g)) := by
      intro g b1 b2 b3 b4 b5
      refine l_mway (h := h) (e := m) (nI kd) (nI fu) pt hW hP hm.2 (Nat.le_refl _) hsp b1 b2 b3 b4 (fun i hi => by rw [b5]; exact hpt i hi) ?_
      unfold lb_X12_way_112
      rw [if_pos (nI_le (Nat.le_refl _) hm31)]
    cases hal : al h pt m with
    | false =>
      refine ⟨-3, ph_i h 0 11 0, ph_i (ph_i h 0 11 0) 43 0 0, ?_, ?_, inv_flt hI 0⟩
      · rw [cl, s_refNo (N := hv_N h) pt hm.2 hsp g17 hN8 (fun i hi => by rw [g4]; exact hpt i hi) (by rw [al_c g21]; exact hal), pu_b1, if_neg (by decide)]
      · simp only [f_X12_way, m_noSheet, m_isLane, hs, hl, pu_b1, kB, fC, fo2' (ph_i h 0 11 0) (by simp [pr_row]) (by simp [pr_row]), pu_b2, tn, pu_lt, sp2]
        rw [mdl (ph_i h 0 11 0) (by simp [pr_row]) (by simp [pr_row]) (by simp [pr_row]) (by simp [pr_row]) e69, hal]
        simp [sw_b, pu_b1, m_refused, pu_b2]
    | true =>
      have sr := s_refOK (N := hv_N h) (g := ph_i h 0 11 0) pt hm.2 hsp g17 hN8 (fun i hi => by rw [g4]; exact hpt i hi) (by rw [al_c g21]; exact hal)
      have e5 : (ph_i h 0 11 0).1 0 5 = nI (hv_W h) := by rw [pr_row, if_pos rfl, up_at, if_neg (by decide)]; exact hW.1.1
      by_cases hW6 : hv_W h < 6
      rotate_left
      · have hw6 : hv_W h = 6 := by have := hW.1.2.1; omega
        have e5' : (ph_i h 0 11 0).1 0 5 = 6 := by rw [e5, hw6]; rfl
        have e23 : (ph_i h 0 11 0).1 43 23 = 6 := by rw [pr_row, if_neg (by decide), hW.1.2.2, hW.1.1, hw6]; rfl
        refine ⟨-4, ph_i h 0 11 0, ph_i (ph_i h 0 11 0) 43 0 0, ?_, ?_, inv_flt hI 0⟩
        · rw [cl, sr, pu_b1, if_pos rfl, e5', if_neg (by decide)]
        · simp only [f_X12_way, m_noSheet, m_isLane, hs, hl, pu_b1, kB, fC, fo2' (ph_i h 0 11 0) (by simp [pr_row]) (by simp [pr_row]), pu_b2, tn, pu_lt, sp2]
          rw [mdl (ph_i h 0 11 0) (by simp [pr_row]) (by simp [pr_row]) (by simp [pr_row]) (by simp [pr_row]) e69, hal]
          simp [sw_b, pu_b1, m_refused, pu_b2, e23]
      · obtain ⟨N0, hN0⟩ : ∃ N0, (l0_B ++ h.2.2.2).length = N0 := ⟨_, rfl⟩
        have hN2 : 71 ≤ N0 := by rw [← hN0]; exact l0_le _
        have hN1 : N0 < 900000 := by
          have h71 : l0_B.length = 71 := by decide +kernel
          have hlen := hC.1
          rw [List.length_append, h71] at hN0
          omega
        have sl := s_layWay (g := ph_i h 0 11 0) (kd := kd) (W := hv_W h) (m := m) (sp := k * 100 + j) (N := hv_N h) (N0 := N0) (nI fu) pt hkd hm.2 hsp hW6 e5 g17 hN8 (fun i hi => by rw [g4]; exact hpt i hi) hN0 hN1 hN2
        obtain ⟨L, eL⟩ : ∃ L, L = lw_C (ph_i h 0 11 0) N0 m (k * 100 + j) kd (hv_W h) (nI fu) pt := ⟨_, rfl⟩
        have L1 : ∀ b, b < 71 → b ≠ 0 → b ≠ 21 → L.1 b = h.1 b := by
          intro b b0 b1 b2
          rw [eL]
          unfold lw_C
          rw [pr_row, if_neg b1, pr_rr, if_neg b2, lwB_row (by omega) (by omega), pr_row, if_neg b1]
        refine ⟨nI (hv_W h), L, wm_7 L (hv_W h) kd fu m (k * 100 + j), ?_, ?_, ?_⟩
        · rw [cl, sr, pu_b1, if_pos (show (0 : Int32) = 0 from rfl), e5, if_pos (show nI (hv_W h) < (6 : Int32) from nI_lt hW6 (by decide)), sl, pu_b2, eL]
        · have d43 : ∀ g : PH, g.1 43 = h.1 43 → g.1 43 23 = nI (hv_W h) := fun g e => by rw [e, hW.1.2.2]; exact hW.1.1
          have b0 : L.1 43 = h.1 43 := L1 43 (by decide) (by decide) (by decide)
          have c1 := d43 L b0
          have c2 := d43 (ph_i L 57 (hv_W h) 1) (by rw [pr_row, if_neg (by decide)]; exact b0)
          have c3 := d43 (ph_i (ph_i L 57 (hv_W h) 1) 58 (hv_W h) (nI kd)) (by rw [pr_row, if_neg (by decide), pr_row, if_neg (by decide)]; exact b0)
          have c4 := d43 (ph_i (ph_i (ph_i L 57 (hv_W h) 1) 58 (hv_W h) (nI kd)) 59 (hv_W h) (nI fu)) (by rw [pr_row, if_neg (by decide), pr_row, if_neg (by decide), pr_row, if_neg (by decide)]; exact b0)
          have c5 := d43 (ph_i (ph_i (ph_i (ph_i L 57 (hv_W h) 1) 58 (hv_W h) (nI kd)) 59 (hv_W h) (nI fu)) 60 (hv_W h) (nI m)) (by rw [pr_row, if_neg (by decide), pr_row, if_neg (by decide), pr_row, if_neg (by decide), pr_row, if_neg (by decide)]; exact b0)
          have c6 := d43 (wm_5 L (hv_W h) kd fu m (k * 100 + j)) (by unfold wm_5; rw [pr_rr, if_neg (by decide), pr_row, if_neg (by decide), pr_row, if_neg (by decide), pr_row, if_neg (by decide), pr_row, if_neg (by decide)]; exact b0)
          have hcW : (nI (hv_W h)).toNatClampNeg = hv_W h := nI_clamp (by omega)
          have l3 := l_mway3 (m := m) (sp := k * 100 + j) hm.2 hW6 hsp c5
          have r69 : (ph_i (ph_i (ph_i (ph_i L 57 (hv_W h) 1) 58 (hv_W h) (nI kd)) 59 (hv_W h) (nI fu)) 60 (hv_W h) (nI m)).1 69 = L.1 69 := by rw [pr_row, if_neg (by decide), pr_row, if_neg (by decide), pr_row, if_neg (by decide), pr_row, if_neg (by decide)]
          have r61 : (ph_i (ph_i (ph_i (ph_i L 57 (hv_W h) 1) 58 (hv_W h) (nI kd)) 59 (hv_W h) (nI fu)) 60 (hv_W h) (nI m)).1 61 = L.1 61 := by rw [pr_row, if_neg (by decide), pr_row, if_neg (by decide), pr_row, if_neg (by decide), pr_row, if_neg (by decide)]
          rw [r69, r61] at l3
          have l3' : lp_f (fun s => lb_X12_way_264 (nI m) (nI (k * 100 + j)) s.1 s.2) fu_l (0, ph_i (ph_i (ph_i (ph_i L 57 (hv_W h) 1) 58 (hv_W h) (nI kd)) 59 (hv_W h) (nI fu)) 60 (hv_W h) (nI m)) = some (nI m, wm_5 L (hv_W h) kd fu m (k * 100 + j)) := l3
          have n6 : ¬ nI (hv_W h) = 6 := fun q => by have := nI_inj (show nI (hv_W h) = nI 6 from q) (by omega) (by omega); omega
          have c7 : (ph_i (wm_5 L (hv_W h) kd fu m (k * 100 + j)) 43 23 (nI (hv_W h + 1))).1 43 23 - 1 = nI (hv_W h) := by
            rw [pr_row, if_pos rfl, up_at, if_pos rfl]
            exact nI_pred _
          unfold f_X12_way
          rw [m_noSheet, if_pos hs, pu_b1, if_pos (show (0 : Int32) = 0 from rfl), kB, pu_b1, if_neg (show ¬ (1 : Int32) = 0 by decide), fC, pu_b1, if_neg (show ¬ (1 : Int32) = 0 by decide), m_isLane, if_pos hl, pu_b1, if_neg (show ¬ (1 : Int32) = 0 by decide), fo2' L (L1 67 (by decide) (by decide) (by decide)) (L1 68 (by decide) (by decide) (by decide)), pu_b2, if_pos (show (0 : Int32) ≤ 0 by decide), tn, pu_b1, if_neg (show ¬ (1 : Int32) = 0 by decide), pu_lt, sp2, mdl L b0 (L1 57 (by decide) (by decide) (by decide)) (L1 60 (by decide) (by decide) (by decide)) (L1 61 (by decide) (by decide) (by decide)) (by rw [L1 69 (by decide) (by decide) (by decide), hS.1]), pu_b1, hal, pu_sr]
          dsimp only
          rw [if_pos (show true = true from rfl), if_neg (show ¬ (1 : Int32) = 0 by decide), c1, if_neg n6, pu_gn hW6 (by decide), hcW, pu_lt, c2, pu_gn hW6 (by decide), hcW, pu_lt, c3, pu_gn hW6 (by decide), hcW, pu_lt, c4, pu_gn hW6 (by decide), hcW, pu_lt, l3', pu_b1, c6, pu_lt, ← nI_succ, c7, m_refused, pu_b2]
          rfl
        · rw [eL]
          exact inv_way hI pt hkd hfu1 hfu2 hm.1 hm.2 hW6 hpt hal hN0 hN2
