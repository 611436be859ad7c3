/-! carries, drop, tooMuch: the reference's row of carries; both answer alike -/
theorem e_corner {g h : PH} (e : g.1 = h.1) (x k : Int32) : f_X12_cornerOf x k g = f_X12_cornerOf x k h := by
  unfold f_X12_cornerOf
  rw [e]
theorem e_pf {g h : PH} (e : g.1 = h.1) (x k : Int32) : f_X12_pieceFar x k g = f_X12_pieceFar x k h := by
  unfold f_X12_pieceFar
  rw [e_corner e, e_corner e, e]
theorem e_many {g h : PH} (e : g.1 = h.1) (x : Int32) : f_X12_manyPieces x g = f_X12_manyPieces x h := by
  unfold f_X12_manyPieces
  rw [e]
theorem e_cab {g h : PH} (e : g.1 = h.1) (x : Int32) : f_X12_cableOf x g = f_X12_cableOf x h := by
  have : (fun s : Int64 × Int32 => lb_X12_cableOf_5 x g s.1 s.2) = fun s => lb_X12_cableOf_5 x h s.1 s.2 := by
    funext s
    unfold lb_X12_cableOf_5
    rw [e_many e, e_pf e]
  unfold f_X12_cableOf
  rw [this]
section WD
variable {h : PH} {x o ci a m kd : Nat} {pt : Nat → Nat}
theorem m_lay166 {g : PH} (hP : iv_P h) (hw : wv h x o ci a m kd pt) (e1 : g.1 = h.1) (e2 : g.2.2 = h.2.2) {u f : Nat} (hu : g.2.1 43 29 = lN u) (hf : g.2.1 62 0 = lN f) : ∃ r, lp_f (fun s => lb_X12_layCarries_166 (nI x) s.1 s.2) fu_l (1, g) = some r ∧ r.2.1 = h.1 ∧ r.2.2.2 = h.2.2 ∧ r.2.2.1 43 29 = lN u ∧ ∀ k, k < pcs kd m → r.2.2.1 62 k = lN f - lN (u * la h pt k) := by
  have hp := pcs_le kd m
  have hp1 : 1 ≤ pcs kd m := by have := hw.2.1.2.2.1; unfold pcs; omega
  obtain ⟨⟨w1, w2, w3, w4⟩, ⟨w5, w6, w7, w8⟩, w9, _⟩ := id hw
  have hN := hP.1.2.1
  refine lp_0 (fun i s => s.1 = nI (i + 1) ∧ s.2.1 = h.1 ∧ s.2.2.2 = h.2.2 ∧ s.2.2.1 43 29 = lN u ∧ ∀ k, k < i + 1 → s.2.2.1 62 k = lN f - lN (u * la h pt k)) _ (pcs kd m - 1) (by omega) ?_ ?_ _ ⟨rfl, e1, e2, hu, ?_⟩
  · rintro i ⟨c, t⟩ hi ⟨q1, q2, q3, q4, q5⟩
    left
    have q1 : c = nI (i + 1) := q1
    subst q1
    have t1 : t.1 = h.1 := q2
    have hj := w9 i (by omega)
    have hld := (hP.2 _ hj.1).2.1
    have mp := m_pieces (g := h) w1 w4 w5 w6
    have e6 : 6 * nI x + nI (i + 1) - 1 = nI (6 * x + i) := by
      show nI 6 * nI x + nI (i + 1) - 1 = _
      rw [nI_mul, nI_add, ← Nat.add_assoc, nI_pred]
    have v : t.2.1 62 i - lN (hv_l h (pt i)) * t.2.1 43 29 = lN f - lN (u * la h pt (i + 1)) := by
      have h1 : t.2.1 62 i = lN f - lN (u * la h pt i) := q5 i (by omega)
      have h2 : t.2.1 43 29 = lN u := q4
      rw [h1, h2, lN_mul, Int64.sub_sub, lN_add, show la h pt (i + 1) = la h pt i + hv_l h (pt i) from rfl, Nat.mul_add, Nat.mul_comm (hv_l h (pt i)) u]
    refine ⟨(nI (i + 1 + 1), ph_l t 62 (i + 1) (lN f - lN (u * la h pt (i + 1)))), ?_, rfl, q2, q3, ?_, ?_⟩
    · show lb_X12_layCarries_166 (nI x) (nI (i + 1)) t = _
      unfold lb_X12_layCarries_166
      rw [e_many t1, mp, pu_b1, if_neg (nI_ge (show i + 1 < pcs kd m by omega) (by omega)), nI_pred, pu_gn (show i < 7 by omega) (by decide), e6, pu_gn (show 6 * x + i < 36 by omega) (by decide), nI_clamp (by omega), t1, hj.2.2, pu_gn (show pt i < 8 by omega) (by decide), pu_gn (show i + 1 < 7 by omega) (by decide), nI_clamp (by omega), nI_clamp (by omega), nI_clamp (by omega), hld.2.2.2, hld.1, nI_l (by omega), v, pu_lt, pu_lt, ← nI_succ]
    · show (ph_l t 62 (i + 1) _).2.1 43 29 = _
      rw [pr_ln (by decide)]
      exact q4
    · intro k hk
      show (ph_l t 62 (i + 1) _).2.1 62 k = _
      rw [pr_ll]
      by_cases hki : k = i + 1
      · rw [if_pos hki, hki]
      · rw [if_neg hki]
        exact q5 k (by omega)
  · rintro ⟨c, t⟩ ⟨q1, q2, q3, q4, q5⟩
    have q1 : c = nI (pcs kd m - 1 + 1) := q1
    subst q1
    have t1 : t.1 = h.1 := q2
    have mp := m_pieces (g := h) w1 w4 w5 w6
    refine ⟨(nI (pcs kd m - 1 + 1), t), ?_, q2, q3, q4, fun k hk => q5 k (by omega)⟩
    show lb_X12_layCarries_166 (nI x) (nI (pcs kd m - 1 + 1)) t = _
    unfold lb_X12_layCarries_166
    rw [e_many t1, mp, pu_b1, if_pos (nI_le (by omega) (by omega))]
  · intro k hk
    have : k = 0 := by omega
    subst this
    show g.2.1 62 0 = lN f - lN (u * 0)
    rw [hf, Nat.mul_zero, lN_sub (Nat.zero_le f)]
    rfl
theorem m_lay (hH : iv_H h) (hX : iv_X h) (hP : iv_P h) (hw : wv h x o ci a m kd pt) (hok : okb h m kd pt = true) : ∃ g, f_X12_layCarries (nI x) h = some ((), g) ∧ g.1 = h.1 ∧ g.2.2 = h.2.2 ∧ g.2.1 43 29 = lN (un h m kd pt) ∧ ∀ k, k < pcs kd m → g.2.1 62 k = cu h m kd pt k := by
  obtain ⟨⟨w1, w2, w3, w4⟩, ⟨w5, w6, w7, w8⟩, w9, _⟩ := id hw
  have hN := hP.1.2.1
  have hc : (nI x).toNatClampNeg = x := nI_clamp (by omega)
  have hL : lp_f (fun s => lb_X12_layCarries_12 (nI x) (nI m) h s.1 s.2) fu_l (0, 0) = some (lN (la h pt m), nI m) := by
    refine lp_cnt (fun i => (lN (la h pt i), nI i)) m _ (fun i hi => ?_) ?_ fu_l 0 (by omega) (by unfold fu_l; omega)
    · show lb_X12_layCarries_12 (nI x) (nI m) h (lN (la h pt i)) (nI i) = _
      have hj := w9 i hi
      have hld := (hP.2 _ hj.1).2.1
      have e6 : 6 * nI x + nI i = nI (6 * x + i) := by
        show nI 6 * nI x + nI i = _
        rw [nI_mul, nI_add]
      unfold lb_X12_layCarries_12
      rw [if_neg (nI_ge hi (by omega)), e6, pu_gn (show 6 * x + i < 36 by omega) (by decide), nI_clamp (by omega), hj.2.2, pu_gn (show pt i < 8 by omega) (by decide), nI_clamp (by omega), hld.2.2.2, hld.1, nI_l (by omega), lN_add, pu_lt, pu_lt, ← nI_succ]
      rfl
    · show lb_X12_layCarries_12 (nI x) (nI m) h (lN (la h pt m)) (nI m) = _
      unfold lb_X12_layCarries_12
      rw [if_pos (nI_le (Nat.le_refl _) (by omega))]
  generalize hg : ph_l (ph_l h 43 29 1) 62 0 (lN (la h pt m)) = g
  have g1 : g.1 = h.1 := by rw [← hg]; rfl
  have g2 : g.2.2 = h.2.2 := by rw [← hg]; rfl
  have g29 : g.2.1 43 29 = lN 1 := by rw [← hg, pr_ln (by decide), pr_ll, if_pos rfl]; rfl
  have g62 : g.2.1 62 0 = lN (la h pt m) := by rw [← hg, pr_ll, if_pos rfl]
  have hy1 := sy_le hH hX hP hw hok
  have hd1 := sd_le hw
  have emod : (su (ya h m pt) (pcs kd m) + 1000000 * su (da h m pt) (pcs kd m)) % 1000000 = su (ya h m pt) (pcs kd m) := by omega
  have start : f_X12_layCarries (nI x) h = if nI kd ≤ 0 then (bd_1 (lp_f (fun s => lb_X12_layCarries_166 (nI x) s.1 s.2) fu_l (1, g)) fun s_36 => some ((), s_36.2)) else (if (lg_cmp (lN (su (ya h m pt) (pcs kd m))) 0) ≤ 0 then (bd_1 (lp_f (fun s => lb_X12_layCarries_166 (nI x) s.1 s.2) fu_l (1, g)) fun s_37 => some ((), s_37.2)) else (bd_1 (lp_f (fun s => lb_X12_layCarries_104 (nI x) (nI m) s.1 s.2.1 s.2.2) fu_l (lN (su (ya h m pt) (pcs kd m)), 0, ph_l (ph_l g 43 29 (lN (su (ya h m pt) (pcs kd m)))) 62 0 0)) fun s_59 => bd_1 (lp_f (fun s => lb_X12_layCarries_166 (nI x) s.1 s.2) fu_l (1, s_59.2.2)) fun s_60 => some ((), s_60.2))) := by
    unfold f_X12_layCarries
    rw [pu_gn w1 (by decide), hc, w6, pu_lt, hL, pu_b1, pu_lt, show (ga_i (β := Unit × PH) 0 7) = ga_i (nI 0) 7 from rfl, pu_gn (by decide) (by decide), show (0 : Int32).toNatClampNeg = 0 from rfl, pu_lt, hg, e_cab g1, m_cab hH hX hP hw, hok, if_pos rfl, pu_b1, show (1000000 : Int64) = lN 1000000 from rfl, pk_lRem (by omega) (by omega) (by omega), emod, pu_lt, pu_gn w1 (by decide), g1, w5, pu_lt, pu_gn (by decide) (by decide), pu_lt]
  have simple : (kd = 0 ∨ yl h m pt = 0) → f_X12_layCarries (nI x) h = (bd_1 (lp_f (fun s => lb_X12_layCarries_166 (nI x) s.1 s.2) fu_l (1, g)) fun s_36 => some ((), s_36.2)) := by
    intro hq
    rw [start]
    by_cases hk : kd = 0
    · rw [if_pos (by rw [hk]; decide)]
    · have hy : yl h m pt = 0 := hq.resolve_left hk
      rw [if_neg (nI_nle (by omega) (by omega)), pcs1 hk, show su (ya h m pt) (m + 1) = 0 from hy, if_pos (by decide)]
  by_cases hq : kd = 0 ∨ yl h m pt = 0
  · obtain ⟨r, r1, r2, r3, r4, r5⟩ := m_lay166 hP hw g1 g2 g29 g62
    refine ⟨r.2, by rw [simple hq, r1, pu_b1], r2, r3, ?_, ?_⟩
    · rw [r4]; unfold un; rw [if_pos hq]
    · intro k hk
      rw [r5 k hk]
      unfold cu un fi
      rw [if_pos hq, if_pos hq]
  · have hk : ¬ kd = 0 := fun q => hq (Or.inl q)
    have hy : ¬ yl h m pt = 0 := fun q => hq (Or.inr q)
    have hyp : su (ya h m pt) (pcs kd m) = yl h m pt := by rw [pcs1 hk]
    rw [hyp] at start hy1
    have hL2 : ∃ r, lp_f (fun s => lb_X12_layCarries_104 (nI x) (nI m) s.1 s.2.1 s.2.2) fu_l (lN (yl h m pt), 0, ph_l (ph_l g 43 29 (lN (yl h m pt))) 62 0 0) = some r ∧ r.2.2.1 = h.1 ∧ r.2.2.2.2 = h.2.2 ∧ r.2.2.2.1 43 29 = lN (yl h m pt) ∧ r.2.2.2.1 62 0 = lN (su (tf h m pt) m) := by
      refine lp_0 (fun i s => s.1 = lN (yl h m pt - su (ya h m pt) i) ∧ s.2.1 = nI i ∧ s.2.2.1 = h.1 ∧ s.2.2.2.2 = h.2.2 ∧ s.2.2.2.1 43 29 = lN (yl h m pt) ∧ s.2.2.2.1 62 0 = lN (su (tf h m pt) i)) _ m (by omega) ?_ ?_ _ ⟨rfl, rfl, g1, g2, ?_, ?_⟩
      · rintro i ⟨c, d, t⟩ hi ⟨q1, q2, q3, q4, q5, q6⟩
        left
        have q1 : c = _ := q1
        have q2 : d = nI i := q2
        subst q1 q2
        have t1 : t.1 = h.1 := q3
        have hj := w9 i hi
        have hld := (hP.2 _ hj.1).2.1
        have pf := m_pf hH hX hP hw (k := i) (by omega)
        have hdl := okb_t.mp hok i (by rw [pcs1 hk]; omega)
        rw [if_neg (show ¬ dd h m pt i = 1000000 by omega)] at pf
        have e6 : 6 * nI x + nI i = nI (6 * x + i) := by
          show nI 6 * nI x + nI i = _
          rw [nI_mul, nI_add]
        have m0 := su_mono (ya h m pt) (m + 1) (i + 1) (by omega)
        have d1 : su (ya h m pt) (i + 1) = su (ya h m pt) i + dd h m pt i / 1000 := rfl
        have t2 : yl h m pt - su (ya h m pt) i - dd h m pt i / 1000 = yl h m pt - su (ya h m pt) (i + 1) := by omega
        have m3 : dd h m pt i / 1000 ≤ yl h m pt - su (ya h m pt) i := by
          show _ ≤ su (ya h m pt) (m + 1) - _
          omega
        refine ⟨(lN (yl h m pt - su (ya h m pt) (i + 1)), nI (i + 1), ph_l t 62 0 (lN (su (tf h m pt) (i + 1)))), ?_, rfl, rfl, q3, q4, ?_, ?_⟩
        · show lb_X12_layCarries_104 (nI x) (nI m) (lN (yl h m pt - su (ya h m pt) i)) (nI i) t = _
          have t62 : t.2.1 62 0 = lN (su (tf h m pt) i) := q6
          unfold lb_X12_layCarries_104
          rw [if_neg (nI_ge hi (by omega)), e_pf t1, pf, pu_b1, show (1000 : Int32) = nI 1000 from rfl, nI_div (by omega) (by decide), nI_l (by omega), lN_sub m3, t2, pu_lt, show (ga_i (β := (Int64 × Int32 × PH) ⊕ (Int64 × Int32 × PH)) 0 7) = ga_i (nI 0) 7 from rfl, pu_gn (by decide) (by decide), e6, pu_gn (show 6 * x + i < 36 by omega) (by decide), nI_clamp (by omega), t1, hj.2.2, pu_gn (show pt i < 8 by omega) (by decide), pu_gn (by decide) (by decide), nI_clamp (by omega), hld.2.2.2, hld.1, nI_l (by omega), lN_mul, show (0 : Int32).toNatClampNeg = 0 from rfl, t62, lN_add, pu_lt, pu_lt, ← nI_succ]
          rfl
        · show (ph_l t 62 0 _).2.1 43 29 = _
          rw [pr_ln (by decide)]
          exact q5
        · show (ph_l t 62 0 _).2.1 62 0 = _
          rw [pr_ll, if_pos rfl]
      · rintro ⟨c, d, t⟩ ⟨q1, q2, q3, q4, q5, q6⟩
        have q2 : d = nI m := q2
        subst q2
        refine ⟨(c, nI m, t), ?_, q3, q4, q5, q6⟩
        show lb_X12_layCarries_104 (nI x) (nI m) c (nI m) t = _
        unfold lb_X12_layCarries_104
        rw [if_pos (nI_le (Nat.le_refl _) (by omega))]
      · show (ph_l (ph_l g 43 29 (lN (yl h m pt))) 62 0 0).2.1 43 29 = _
        rw [pr_ln (by decide), pr_ll, if_pos rfl]
      · show (ph_l (ph_l g 43 29 (lN (yl h m pt))) 62 0 0).2.1 62 0 = _
        rw [pr_ll, if_pos rfl]
        rfl
    obtain ⟨s, s1, s2, s3, s4, s5⟩ := hL2
    obtain ⟨r, r1, r2, r3, r4, r5⟩ := m_lay166 (g := s.2.2) hP hw s2 s3 s4 s5
    refine ⟨r.2, ?_, r2, r3, ?_, ?_⟩
    · have hp : ¬ lg_cmp (lN (yl h m pt)) 0 ≤ 0 := by
        rw [lg_cmp_le, l_le, pk_lT (by omega)]
        have : (0 : Int64).toInt = 0 := rfl
        omega
      rw [start, if_neg (nI_nle (by omega) (by omega)), if_neg hp, s1, pu_b1, r1, pu_b1]
    · rw [r4]; unfold un; rw [if_neg hq]
    · intro k hk
      rw [r5 k hk]
      unfold cu un fi
      rw [if_neg hq, if_neg hq]
end WD
theorem s_half (w : Int32) (h : PH) : (∃ v : Nat, v ≤ 1 ∧ f_X11_isHalfOfShare w h = some 1 ∧ ∀ g : PH, f_X12_in w.toInt64 0 1 g = some 1) ∨ (f_X11_isHalfOfShare w h = some 0 ∧ ∀ g : PH, f_X12_in w.toInt64 0 1 g = some 0) := by
  have z0 : (0 : Int64).toInt = 0 := rfl
  have z1 : (1 : Int64).toInt = 1 := rfl
  have y0 : (0 : Int32).toInt = 0 := rfl
  have y1 : (1 : Int32).toInt = 1 := rfl
  unfold f_X11_isHalfOfShare
  by_cases hw0 : w = 0
  · left
    refine ⟨0, by omega, by rw [if_pos hw0], fun g => ?_⟩
    rw [f_ini, hw0, if_pos (by omega)]
  · by_cases hw1 : w = 1
    · left
      refine ⟨1, by omega, by rw [if_neg hw0, if_pos hw1], fun g => ?_⟩
      rw [f_ini, hw1, if_pos (by omega)]
    · right
      refine ⟨by rw [if_neg hw0, if_neg hw1], fun g => ?_⟩
      have a0 : ¬ w.toInt = 0 := fun q => hw0 (by rw [i_eq, q]; rfl)
      have a1 : ¬ w.toInt = 1 := fun q => hw1 (by rw [i_eq, q]; rfl)
      rw [f_ini, if_neg (by omega)]
theorem int_abs (z : Int) (hz : -(2 ^ 61 : Int) ≤ z ∧ z ≤ 2 ^ 61) : ∃ A : Nat, A < 2 ^ 62 ∧ (z = (A : Int) ∨ z = -(A : Int)) := ⟨z.natAbs, by omega, by omega⟩
theorem m_lost (h : PH) : f_X12_lost h = some (-9223372036854775808) := rfl
theorem o_carries {n : Nat} {h : PH} (hi : Inv n h) (x y z : Int32) : ∃ r h2, f_X11_carries x y z h = some r ∧ f_X12_carries x y z h = some (r, h2) ∧ Inv (n + 1) h2 := by
  obtain ⟨hS, hF, hH, hX, hP, hW, hR, hC⟩ := id hi
  have z0 : (0 : Int64).toInt = 0 := rfl
  rcases wy hW x with ⟨w1, w2⟩ | ⟨k, o, ci, a, m, rfl, hk, hk6, hw, w1, w2⟩
  · exact ⟨-9223372036854775808, h, by simp [f_X11_carries, w1 h rfl rfl, pu_b1, mo_b], by simp [f_X12_carries, w2 h rfl rfl, pu_b1, m_lost], inv_up hi⟩
  · obtain ⟨kd, pt, hv⟩ := wv_of hk6 hw
    have q3 := hw.2.2.1
    have hp := pcs_le kd m
    obtain ⟨⟨v1, v2, v3, v4⟩, ⟨v5, v6, v7, v8⟩, _⟩ := id hv
    have sp := s_pieces (g := h) (a := a) (m := m) v2 v3
    have mp := m_pieces (g := h) v1 v4 v5 v6
    by_cases hy : 0 ≤ y.toInt ∧ y.toInt < pcs kd m
    · obtain ⟨j, hj, rfl⟩ := ix_of hy.1 (n := pcs kd m) (by omega) (by omega)
      have i1 : f_X12_in (nI j).toInt64 0 ((nI (pcs kd m)).toInt64 - 1) h = some 1 := by
        rw [f_ini, nI_l1 (by omega), nI_toInt (by omega), if_pos (by omega)]
      rcases s_half z h with ⟨v, _, e1, e2⟩ | ⟨e1, e2⟩
      · have c1 : f_X11_carries (nI k) (nI j) z h = bd_1 (f_X1_canBeLaid ci a m o h) fun r_7 => if r_7 = 0 then some (-9223372036854775808) else (bd_1 (f_X1_carriedUpper ci a m o (nI j) h) fun r_8 => bd_1 (vd_carriedLower ci a m o h) fun r_9 => bd_1 (f_X11_inLeastTerms r_8 r_9 z h) fun r_10 => some r_10) := by
          unfold f_X11_carries
          rw [w1 h rfl rfl, pu_b1]
          simp only [mo_b]
          rw [q3, pu_b1, if_neg (nI_pos (by omega)), sp, pu_b1, if_neg (nI_ge hj (by omega)), e1, pu_b1, if_neg (by decide)]
        have c2 : f_X12_carries (nI k) (nI j) z h = bd_1 (f_X12_cableOf (nI k) h) fun r_8 => if 0 ≤ (lg_cmp r_8 0) then (bd_2 (f_X12_layCarries (nI k) h) fun r_9 h_10 => ga_i (nI j) 7 (bd_1 (f_X12_told (h_10.2.1 62 (nI j).toNatClampNeg) (h_10.2.1 43 29) z h_10) fun r_12 => some (r_12, h_10))) else (bd_1 (f_X12_lost h) fun r_13 => some (r_13, h)) := by
          unfold f_X12_carries
          rw [w2 h rfl rfl, pu_b1, if_pos rfl, mp, pu_b1, i1, pu_b1, if_neg (by decide), e2, pu_b1, if_neg (by decide)]
        rw [c1, c2, s_laid hH hX hP hv, m_cab hH hX hP hv, pu_b1, pu_b1]
        cases hok : okb h m kd pt with
        | false => exact ⟨-9223372036854775808, h, by rfl, by rfl, inv_up hi⟩
        | true =>
          have hy1 := sy_le hH hX hP hv hok
          have hd1 := sd_le hv
          obtain ⟨g, g1, g2, g3, g4, g5⟩ := m_lay hH hX hP hv hok
          obtain ⟨u1, u2, u3⟩ := un_b hH hX hP hv hok
          obtain ⟨zz, t1, t2, t3⟩ := cu_abs hH hX hP hv hok (k := j) (by omega)
          obtain ⟨A, a1, a2⟩ := int_abs zz (by omega)
          obtain ⟨r, r1, r2⟩ := both_told (U := cu h m kd pt j) (A := A) (b := un h m kd pt) z h g a1 (by rw [t1]; exact a2) u1 (by omega)
          refine ⟨r, g, ?_, ?_, inv_l hi g2 g3⟩
          · rw [if_pos rfl, if_neg (by decide), s_upper hH hX hP hv hok hj, pu_b1, s_lower hH hX hP hv hok, pu_b1, r1, pu_b1]
          · rw [if_pos rfl, if_pos (lg_nn _ (by omega)), g1, pu_b2, pu_gn (show j < 7 by omega) (by decide), nI_clamp (by omega), g5 j hj, g4, r2, pu_b1]
      · refine ⟨-9223372036854775808, h, ?_, ?_, inv_up hi⟩
        · unfold f_X11_carries
          rw [w1 h rfl rfl, pu_b1]
          simp only [mo_b]
          rw [q3, pu_b1, if_neg (nI_pos (by omega)), sp, pu_b1, if_neg (nI_ge hj (by omega)), e1, pu_b1, if_pos rfl]
        · unfold f_X12_carries
          rw [w2 h rfl rfl, pu_b1, if_pos rfl, mp, pu_b1, i1, pu_b1, if_neg (by decide), e2, pu_b1, if_pos rfl, m_lost, pu_b1]
    · refine ⟨-9223372036854775808, h, ?_, ?_, inv_up hi⟩
      · unfold f_X11_carries
        rw [w1 h rfl rfl, pu_b1]
        simp only [mo_b]
        rw [q3, pu_b1]
        by_cases h0 : 0 ≤ y.toInt
        · rw [if_neg (nI_nlt0 h0), sp, pu_b1, if_pos (by rw [i_le, nI_toInt (by omega)]; omega)]
        · rw [if_pos (nI_lt0 (by omega))]
      · unfold f_X12_carries
        rw [w2 h rfl rfl, pu_b1, if_pos rfl, mp, pu_b1, f_ini, nI_l1 (by omega), if_neg (by omega), pu_b1, if_pos rfl, m_lost, pu_b1]
/-- drops: sums of yards times what is carried -/
def ds (h : PH) (m kd : Nat) (pt : Nat → Nat) : Nat → Int64
  | 0 => 0
  | k + 1 => ds h m kd pt k + lN (ya h m pt k) * cu h m kd pt k
theorem ds_abs {h : PH} {x o ci a m kd : Nat} {pt : Nat → Nat} (hH : iv_H h) (hX : iv_X h) (hP : iv_P h) (hw : wv h x o ci a m kd pt) (hok : okb h m kd pt = true) : ∀ k, k ≤ m → ∃ z : Int, (ds h m kd pt k).toInt = z ∧ -(8232840 * k : Int) ≤ z ∧ z ≤ 8232840 * k := by
  intro k
  induction k with
  | zero => intro _; exact ⟨0, rfl, by omega, by omega⟩
  | succ k ih =>
    intro hk
    have w8 := hw.2.1.2.2.2
    obtain ⟨z, z1, z2, z3⟩ := ih (by omega)
    obtain ⟨c, c1, c2, c3⟩ := cu_abs hH hX hP hw hok (k := k) (by omega)
    have hy := ya_le hH hX hP hw hok (k := k) (by unfold pcs; omega)
    have h1 : (ya h m pt k : Int) * c ≤ 99 * 83160 := by
      have a1 : (ya h m pt k : Int) * c ≤ (ya h m pt k : Int) * 83160 := Int.mul_le_mul_of_nonneg_left c3 (by omega)
      have a2 : (ya h m pt k : Int) * 83160 ≤ 99 * 83160 := Int.mul_le_mul_of_nonneg_right (by omega) (by omega)
      omega
    have h2 : -(99 * 83160 : Int) ≤ (ya h m pt k : Int) * c := by
      have a1 : (ya h m pt k : Int) * (-83160) ≤ (ya h m pt k : Int) * c := Int.mul_le_mul_of_nonneg_left c2 (by omega)
      have a2 : (ya h m pt k : Int) * 83160 ≤ 99 * 83160 := Int.mul_le_mul_of_nonneg_right (by omega) (by omega)
      have a3 : (ya h m pt k : Int) * (-83160) = -((ya h m pt k : Int) * 83160) := Int.mul_neg _ _
      omega
    have hm : (lN (ya h m pt k) * cu h m kd pt k).toInt = (ya h m pt k : Int) * c := by
      have p1 : (lN (ya h m pt k)).toInt = (ya h m pt k : Int) := pk_lT (by omega)
      rw [l_mul (by rw [p1, c1]; omega) (by rw [p1, c1]; omega), p1, c1]
    refine ⟨z + (ya h m pt k : Int) * c, ?_, ?_, ?_⟩
    · show (ds h m kd pt k + lN (ya h m pt k) * cu h m kd pt k).toInt = _
      rw [l_add (by rw [hm, z1]; omega) (by rw [hm, z1]; omega), hm, z1]
    · omega
    · omega
theorem o_drop {n : Nat} {h : PH} (hi : Inv n h) (x y z : Int32) : ∃ r h2, f_X11_drop x y z h = some r ∧ f_X12_drop x y z h = some (r, h2) ∧ Inv (n + 1) h2 := by
  obtain ⟨hS, hF, hH, hX, hP, hW, hR, hC⟩ := id hi
  have z0 : (0 : Int64).toInt = 0 := rfl
  rcases wy hW x with ⟨w1, w2⟩ | ⟨k, o, ci, a, m, rfl, hk, hk6, hw, w1, w2⟩
  · exact ⟨-9223372036854775808, h, by simp [f_X11_drop, w1 h rfl rfl, pu_b1, mo_b], by simp [f_X12_drop, w2 h rfl rfl, pu_b1, m_lost], inv_up hi⟩
  · obtain ⟨kd, pt, hv⟩ := wv_of hk6 hw
    have q3 := hw.2.2.1
    have hp := pcs_le kd m
    have hpm : m ≤ pcs kd m := by unfold pcs; omega
    obtain ⟨⟨v1, v2, v3, v4⟩, ⟨v5, v6, v7, v8⟩, _⟩ := id hv
    have hc : (nI k).toNatClampNeg = k := nI_clamp (by omega)
    by_cases hy : 0 ≤ y.toInt ∧ y.toInt < m
    · obtain ⟨j, hj, rfl⟩ := ix_of hy.1 (n := m) (by omega) (by omega)
      have i1 : f_X12_in (nI j).toInt64 0 ((nI m).toInt64 - 1) h = some 1 := by
        rw [f_ini, nI_l1 (by omega), nI_toInt (by omega), if_pos (by omega)]
      rcases s_half z h with ⟨v, _, e1, e2⟩ | ⟨e1, e2⟩
      · have c1 : f_X11_drop (nI k) (nI j) z h = bd_1 (f_X1_canBeLaid ci a m o h) fun r_7 => if r_7 = 0 then some (-9223372036854775808) else (bd_1 (vd_carriedLower ci a m o h) fun r_8 => bd_1 (vd_strands ci a m o h) fun r_9 => lt_b (r_8 * r_9.toInt64) fun x5_10 => bd_1 (f_X1_droppedUpper ci a m o (nI j) h) fun r_11 => bd_1 (f_X11_inLeastTerms r_11 x5_10 z h) fun r_12 => some r_12) := by
          unfold f_X11_drop
          rw [w1 h rfl rfl, pu_b1]
          simp only [mo_b]
          rw [q3, pu_b1, if_neg (nI_pos (by omega)), pu_gz v2, if_neg (show ¬ Int32.ofNat m ≤ nI j from nI_ge hj (by omega)), e1, pu_b1, if_neg (by decide)]
        have c2 : f_X12_drop (nI k) (nI j) z h = bd_1 (f_X12_cableOf (nI k) h) fun r_8 => if 0 ≤ (lg_cmp r_8 0) then (bd_2 (f_X12_layCarries (nI k) h) fun r_9 h_10 => bd_1 (lp_f (fun s => lb_X12_drop_61 (nI k) (nI j) z h_10 s.1 s.2) fu_l (0, 0)) fun s_21 => ga_i (nI k) 6 (if (h_10.1 58 (nI k).toNatClampNeg) = 2 then (bd_1 (f_X12_told s_21.1 (2 * (h_10.2.1 43 29)) z h_10) fun r_24 => some (r_24, h_10)) else (bd_1 (f_X12_told s_21.1 (h_10.2.1 43 29) z h_10) fun r_23 => some (r_23, h_10)))) else (bd_1 (f_X12_lost h) fun r_26 => some (r_26, h)) := by
          unfold f_X12_drop
          rw [w2 h rfl rfl, pu_b1, if_pos rfl, pu_gn v1 (by decide), hc, v6, i1, pu_b1, if_neg (by decide), e2, pu_b1, if_neg (by decide)]
        rw [c1, c2, s_laid hH hX hP hv, m_cab hH hX hP hv, pu_b1, pu_b1]
        cases hok : okb h m kd pt with
        | false => exact ⟨-9223372036854775808, h, by rfl, by rfl, inv_up hi⟩
        | true =>
          have hy1 := sy_le hH hX hP hv hok
          have hd1 := sd_le hv
          obtain ⟨g, g1, g2, g3, g4, g5⟩ := m_lay hH hX hP hv hok
          obtain ⟨u1, u2, u3⟩ := un_b hH hX hP hv hok
          obtain ⟨zz, t1, t2, t3⟩ := ds_abs hH hX hP hv hok (j + 1) (by omega)
          obtain ⟨A, a1, a2⟩ := int_abs zz (by omega)
          have hb : 0 < un h m kd pt * (if kd = 2 then 2 else 1) ∧ un h m kd pt * (if kd = 2 then 2 else 1) < 2 ^ 40 := by
            split <;> omega
          obtain ⟨r, r1, r2⟩ := both_told (U := ds h m kd pt (j + 1)) (A := A) (b := un h m kd pt * (if kd = 2 then 2 else 1)) z h g a1 (by rw [t1]; exact a2) hb.1 hb.2
          have L1 : lp_f (fun s => lb_X1_droppedUpper_6 ci a m o (nI j) h s.1 s.2) fu_l (0, 0) = some (ds h m kd pt (j + 1), nI (j + 1)) := by
            refine lp_cnt (fun i => (ds h m kd pt i, nI i)) (j + 1) _ (fun i hi => ?_) ?_ fu_l 0 (by omega) (by unfold fu_l; omega)
            · show lb_X1_droppedUpper_6 ci a m o (nI j) h (ds h m kd pt i) (nI i) = _
              have hyo := s_yo hH hX hP hv (k := i) (by omega)
              have hdl := okb_t.mp hok i (by omega)
              rw [if_neg (show ¬ dd h m pt i = 1000000 by omega)] at hyo
              unfold lb_X1_droppedUpper_6
              rw [if_neg (nI_nlt (show i ≤ j by omega) (by omega)), hyo, pu_b1, s_upper hH hX hP hv hok (by omega), pu_b1, nI_l (by omega), pu_lt, pu_lt, ← nI_succ]
              rfl
            · show lb_X1_droppedUpper_6 ci a m o (nI j) h _ (nI (j + 1)) = _
              unfold lb_X1_droppedUpper_6
              rw [if_pos (nI_lt (by omega) (by omega))]
          have L2 : lp_f (fun s => lb_X12_drop_61 (nI k) (nI j) z g s.1 s.2) fu_l (0, 0) = some (ds h m kd pt (j + 1), nI (j + 1)) := by
            refine lp_cnt (fun i => (ds h m kd pt i, nI i)) (j + 1) _ (fun i hi => ?_) ?_ fu_l 0 (by omega) (by unfold fu_l; omega)
            · show lb_X12_drop_61 (nI k) (nI j) z g (ds h m kd pt i) (nI i) = _
              have pf := m_pf hH hX hP hv (k := i) (by omega)
              have hdl := okb_t.mp hok i (by omega)
              rw [if_neg (show ¬ dd h m pt i = 1000000 by omega)] at pf
              unfold lb_X12_drop_61
              rw [if_neg (nI_nlt (show i ≤ j by omega) (by omega)), pu_gn (show i < 7 by omega) (by decide), e_pf g2, pf, pu_b1, nI_clamp (by omega), g5 i (by omega), show (1000 : Int32) = nI 1000 from rfl, nI_div (by omega) (by decide), nI_l (by omega), Int64.mul_comm, pu_lt, pu_lt, ← nI_succ]
              rfl
            · show lb_X12_drop_61 (nI k) (nI j) z g _ (nI (j + 1)) = _
              unfold lb_X12_drop_61
              rw [if_pos (nI_lt (by omega) (by omega))]
          refine ⟨r, g, ?_, ?_, inv_l hi g2 g3⟩
          · have e5 : (nI (if kd = 2 then 2 else 1)).toInt64 = lN (if kd = 2 then 2 else 1) := nI_l (by split <;> omega)
            unfold f_X1_droppedUpper
            rw [if_pos rfl, if_neg (by decide), s_lower hH hX hP hv hok, pu_b1, s_str v3, pu_b1, e5, lN_mul, pu_lt, L1, pu_b1, pu_b1, r1, pu_b1]
          · rw [if_pos rfl, if_pos (lg_nn _ (by omega)), g1, pu_b2, L2, pu_b1, pu_gn v1 (by decide), hc, g2, v5, g4]
            by_cases k2 : kd = 2
            · rw [if_pos (by rw [k2]; rfl), show (2 : Int64) = lN 2 from rfl, lN_mul]
              rw [if_pos k2, Nat.mul_comm] at r2
              rw [r2, pu_b1]
            · have : ¬ nI kd = 2 := fun q => k2 (nI_inj (show nI kd = nI 2 from q) (by omega) (by decide))
              rw [if_neg this]
              rw [if_neg k2, Nat.mul_one] at r2
              rw [r2, pu_b1]
      · refine ⟨-9223372036854775808, h, ?_, ?_, inv_up hi⟩
        · unfold f_X11_drop
          rw [w1 h rfl rfl, pu_b1]
          simp only [mo_b]
          rw [q3, pu_b1, if_neg (nI_pos (by omega)), pu_gz v2, if_neg (show ¬ Int32.ofNat m ≤ nI j from nI_ge hj (by omega)), e1, pu_b1, if_pos rfl]
        · unfold f_X12_drop
          rw [w2 h rfl rfl, pu_b1, if_pos rfl, pu_gn v1 (by decide), hc, v6, i1, pu_b1, if_neg (by decide), e2, pu_b1, if_pos rfl, m_lost, pu_b1]
    · refine ⟨-9223372036854775808, h, ?_, ?_, inv_up hi⟩
      · unfold f_X11_drop
        rw [w1 h rfl rfl, pu_b1]
        simp only [mo_b]
        rw [q3, pu_b1]
        by_cases h0 : 0 ≤ y.toInt
        · rw [if_neg (nI_nlt0 h0), pu_gz v2, if_pos (show Int32.ofNat m ≤ y by rw [i_le, show (Int32.ofNat m).toInt = m from nI_toInt (by omega)]; omega)]
        · rw [if_pos (nI_lt0 (by omega))]
      · unfold f_X12_drop
        rw [w2 h rfl rfl, pu_b1, if_pos rfl, pu_gn v1 (by decide), hc, v6, f_ini, nI_l1 (by omega), if_neg (by omega), pu_b1, if_pos rfl, m_lost, pu_b1]
/-- sizes compared -/
theorem l_size (U F : Int64) : (if 0 < U then U else -U) = if 0 ≤ lg_cmp U 0 then U else -U := by
  have z : (0 : Int64).toInt = 0 := rfl
  by_cases h0 : 0 < U
  · rw [if_pos h0, if_pos (by rw [lg_cmp_ge, l_le]; rw [l_lt] at h0; omega)]
  · rw [if_neg h0]
    by_cases h1 : 0 ≤ lg_cmp U 0
    · rw [if_pos h1]
      have : U = 0 := by
        rw [lg_cmp_ge, l_le] at h1
        rw [l_lt] at h0
        rw [l_eq]
        omega
      rw [this]
      rfl
    · rw [if_neg h1]
theorem o_tooMuch {n : Nat} {h : PH} (hi : Inv n h) (x : Int32) : ∃ r h2, f_X11_tooMuch x h = some r ∧ f_X12_tooMuch x h = some (r, h2) ∧ Inv (n + 1) h2 := by
  obtain ⟨hS, hF, hH, hX, hP, hW, hR, hC⟩ := id hi
  rcases wy hW x with ⟨w1, w2⟩ | ⟨k, o, ci, a, m, rfl, hk, hk6, hw, w1, w2⟩
  · exact ⟨-1, h, by simp [f_X11_tooMuch, w1 h rfl rfl, pu_b1, mo_b], by simp [f_X12_tooMuch, w2 h rfl rfl, pu_b1], inv_up hi⟩
  · obtain ⟨kd, pt, hv⟩ := wv_of hk6 hw
    have q3 := hw.2.2.1
    have hp := pcs_le kd m
    obtain ⟨⟨v1, v2, v3, v4⟩, ⟨v5, v6, v7, v8⟩, v9, v10, v11⟩ := id hv
    have hc : (nI k).toNatClampNeg = k := nI_clamp (by omega)
    have sp := s_pieces (g := h) (a := a) (m := m) v2 v3
    have mp := m_pieces (g := h) v1 v4 v5 v6
    have c1 : f_X11_tooMuch (nI k) h = bd_1 (f_X1_canBeLaid ci a m o h) fun r_5 => if r_5 = 0 then some (-3) else (bd_1 (f_X1_firstOverFuse ci a m o h) fun r_6 => some r_6) := by
      unfold f_X11_tooMuch
      rw [w1 h rfl rfl, pu_b1]
      simp only [mo_b]
      rw [q3, pu_b1]
    have c2 : f_X12_tooMuch (nI k) h = bd_1 (f_X12_cableOf (nI k) h) fun r_2 => if 0 ≤ (lg_cmp r_2 0) then (bd_2 (f_X12_layCarries (nI k) h) fun r_3 h_4 => bd_1 (lp_f (fun s => lb_X12_tooMuch_30 (nI k) h_4 s) fu_l 0) fun s_33 => sw_b s_33 (fun r_35 => some r_35) fun e_34 => some ((-9), h_4)) else some ((-3), h) := by
      unfold f_X12_tooMuch
      rw [w2 h rfl rfl, pu_b1, if_pos rfl]
    rw [c1, c2, s_laid hH hX hP hv, m_cab hH hX hP hv, pu_b1, pu_b1]
    cases hok : okb h m kd pt with
    | false => exact ⟨-3, h, by rfl, by rfl, inv_up hi⟩
    | true =>
      have hy1 := sy_le hH hX hP hv hok
      have hd1 := sd_le hv
      obtain ⟨g, g1, g2, g3, g4, g5⟩ := m_lay hH hX hP hv hok
      generalize hM : (h.1 o 1).toInt64 * lN (un h m kd pt) = M
      have key : ∀ j, ∃ r : Int32, ∃ t t', j ≤ pcs kd m → lp_f (fun s => lb_X1_firstOverFuse_16 ci a m o M h s) (pcs kd m - j + 1) (nI j) = some t ∧ lp_f (fun s => lb_X12_tooMuch_30 (nI k) g s) (pcs kd m - j + 1) (nI j) = some t' ∧ ((t = .inl r ∧ t' = .inl (r, g)) ∨ ∃ y y', t = .inr y ∧ t' = .inr y') := by
        intro j
        by_cases hjl : j ≤ pcs kd m
        rotate_left
        · exact ⟨0, .inl 0, .inl (0, g), fun q => absurd q hjl⟩
        obtain ⟨d, hd⟩ : ∃ d, pcs kd m - j = d := ⟨_, rfl⟩
        induction d generalizing j with
        | zero =>
          have hje : j = pcs kd m := by omega
          subst hje
          refine ⟨0, .inr (nI (pcs kd m)), .inr (nI (pcs kd m)), fun _ => ⟨?_, ?_, Or.inr ⟨_, _, rfl, rfl⟩⟩⟩
          · apply lp_r
            show lb_X1_firstOverFuse_16 ci a m o M h (nI (pcs kd m)) = _
            unfold lb_X1_firstOverFuse_16
            rw [sp, pu_b1, if_pos (nI_le (Nat.le_refl _) (by omega))]
          · apply lp_r
            show lb_X12_tooMuch_30 (nI k) g (nI (pcs kd m)) = _
            unfold lb_X12_tooMuch_30
            rw [e_many g2, mp, pu_b1, if_pos (nI_le (Nat.le_refl _) (by omega))]
        | succ d ih =>
          have hj : j < pcs kd m := by omega
          have a1 : lb_X1_firstOverFuse_16 ci a m o M h (nI j) = if (lg_cmp (if 0 < cu h m kd pt j then cu h m kd pt j else -(cu h m kd pt j)) M) ≤ 0 then some (.inl (nI (j + 1))) else some (.inr (.inl (nI j))) := by
            unfold lb_X1_firstOverFuse_16
            rw [sp, pu_b1, if_neg (nI_ge hj (by omega)), s_upper hH hX hP hv hok hj, pu_b1, pu_lt, ← nI_succ]
          have a2 : lb_X12_tooMuch_30 (nI k) g (nI j) = if (lg_cmp (if 0 < cu h m kd pt j then cu h m kd pt j else -(cu h m kd pt j)) M) ≤ 0 then some (.inl (nI (j + 1))) else some (.inr (.inl (nI j, g))) := by
            unfold lb_X12_tooMuch_30
            rw [e_many g2, mp, pu_b1, if_neg (nI_ge hj (by omega)), pu_gn (show j < 7 by omega) (by decide), nI_clamp (by omega), g5 j hj, pu_gn (show j < 7 by omega) (by decide), pu_gn (show j < 7 by omega) (by decide), pu_lt, pu_lt, pu_gn v1 (by decide), pu_lt, pu_gn v1 (by decide), hc, g2, v10, g4, hM, ← nI_succ, l_size _ M]
            by_cases hz : 0 ≤ lg_cmp (cu h m kd pt j) 0
            · rw [if_pos hz, if_pos hz]
            · rw [if_neg hz, if_neg hz]
          by_cases hq : (lg_cmp (if 0 < cu h m kd pt j then cu h m kd pt j else -(cu h m kd pt j)) M) ≤ 0
          · rw [if_pos hq] at a1 a2
            obtain ⟨r, t, t', hr⟩ := ih (j + 1) (by omega) (by omega)
            obtain ⟨r1, r2, r3⟩ := hr (by omega)
            have e0 : pcs kd m - j + 1 = (pcs kd m - (j + 1) + 1) + 1 := by omega
            refine ⟨r, t, t', fun _ => ⟨?_, ?_, r3⟩⟩
            · rw [e0, lp_s (body := fun s => lb_X1_firstOverFuse_16 ci a m o M h s) (s := nI j) a1]
              exact r1
            · rw [e0, lp_s (body := fun s => lb_X12_tooMuch_30 (nI k) g s) (s := nI j) a2]
              exact r2
          · rw [if_neg hq] at a1 a2
            exact ⟨nI j, .inl (nI j), .inl (nI j, g), fun _ => ⟨lp_r a1, lp_r a2, Or.inl ⟨rfl, rfl⟩⟩⟩
      obtain ⟨r, t, t', hr⟩ := key 0
      obtain ⟨r1, r2, r3⟩ := hr (Nat.zero_le _)
      have more : ∀ {σ ρ : Type} {body : σ → Option (σ ⊕ ρ)} {s : σ} {y : ρ} (n d : Nat), lp_f body n s = some y → lp_f body (n + d) s = some y := by
        intro σ ρ body s y n
        induction n generalizing s with
        | zero => intro d q; cases q
        | succ n ih =>
          intro d q
          obtain ⟨k', y', e1, e2, e3⟩ := lp_e q
          have : k' = n := by omega
          subst this
          rw [show k' + 1 + d = (k' + d) + 1 by omega]
          rcases e3 with ⟨t, t1, t2⟩ | t1
          · subst t1
            rw [lp_s e2]
            exact ih d t2
          · subst t1
            exact lp_r e2
      have f1 := more _ (fu_l - (pcs kd m - 0 + 1)) r1
      have f2 := more _ (fu_l - (pcs kd m - 0 + 1)) r2
      have ef : pcs kd m - 0 + 1 + (fu_l - (pcs kd m - 0 + 1)) = fu_l := by unfold fu_l; omega
      rw [ef] at f1 f2
      have ff : f_X1_firstOverFuse ci a m o h = sw_b t (fun r_15 => some r_15) fun e_14 => some (-9) := by
        unfold f_X1_firstOverFuse
        rw [s_lower hH hX hP hv hok, pu_b1, hM, pu_lt]
        rw [show (0 : Int32) = nI 0 from rfl, f1, pu_b1]
      have fm : (bd_1 (lp_f (fun s => lb_X12_tooMuch_30 (nI k) g s) fu_l 0) fun s_33 => sw_b s_33 (fun r_35 => some r_35) fun e_34 => some ((-9 : Int32), g)) = sw_b t' (fun r_35 => some r_35) fun e_34 => some ((-9), g) := by
        rw [show (0 : Int32) = nI 0 from rfl, f2, pu_b1]
      rcases r3 with ⟨rfl, rfl⟩ | ⟨y, y', rfl, rfl⟩
      · refine ⟨r, g, ?_, ?_, inv_l hi g2 g3⟩
        · rw [if_pos rfl, if_neg (by decide), ff]
          rfl
        · rw [if_pos rfl, if_pos (lg_nn _ (by omega)), g1, pu_b2, fm]
          rfl
      · refine ⟨-9, g, ?_, ?_, inv_l hi g2 g3⟩
        · rw [if_pos rfl, if_neg (by decide), ff]
          rfl
        · rw [if_pos rfl, if_pos (lg_nn _ (by omega)), g1, pu_b2, fm]
          rfl
