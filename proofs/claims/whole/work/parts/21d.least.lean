/-! least, order -/
theorem cQ_of {h : PH} (hH : iv_H h) (hX : iv_X h) (hP : iv_P h) : cQ h (hv_P h) (hv_N h) (hv_D h) (hv_p h) := ⟨cD_of hH hX, hP.1.2.1, hP.1.1, fun p hp => ⟨(hP.2 p hp).1.1, (hP.2 p hp).1.2.1⟩⟩
theorem mQ_of {h : PH} (hH : iv_H h) (hX : iv_X h) (hP : iv_P h) (hB : hv_B h < hv_P h) : mQ h (hv_P h) (hv_N h) (hv_B h) (hv_D h) (hv_p h) := ⟨mD_of hH hX, hP.1.2.1, by rw [hP.1.2.2]; exact hP.1.1, fun p hp => ⟨by rw [(hP.2 p hp).1.2.2]; exact (hP.2 p hp).1.1, (hP.2 p hp).1.2.1⟩, by rw [hH.2.1.2.2]; exact hH.2.1.1, hB⟩
theorem B_lt {h : PH} (hH : iv_H h) (hP : iv_P h) (h0 : 0 < hv_N h) : hv_B h < hv_P h := hH.2.1.2.1 (by have := (hP.2 0 h0).1.2.1; omega)
/-- a set of points that isn't empty -/
theorem rg_s1 {h : PH} (hi : iv_P h) (x : Int32) : (∃ s : Nat, 1 ≤ s ∧ s < 2 ^ hv_N h ∧ 0 < hv_N h ∧ x = nI s ∧ (∀ g : PH, g.1 17 0 = h.1 17 0 → f_X11_isSetOfPoints x g = some 1) ∧ ¬ x = 0 ∧ ∀ g : PH, g.1 43 19 = h.1 43 19 → f_X12_noSet x g = some 0) ∨ (((∀ g : PH, g.1 17 0 = h.1 17 0 → f_X11_isSetOfPoints x g = some 0) ∨ ((∀ g : PH, g.1 17 0 = h.1 17 0 → f_X11_isSetOfPoints x g = some 1) ∧ x = 0)) ∧ ∀ g : PH, g.1 43 19 = h.1 43 19 → f_X12_noSet x g = some 1) := by
  have z1 : (1 : Int64).toInt = 1 := rfl
  have w1 : h.1 17 0 = nI (hv_N h) := hi.1.1
  have w2 : hv_N h ≤ 8 := hi.1.2.1
  have w3 : h.1 43 19 = h.1 17 0 := hi.1.2.2
  have hp := p2_le w2
  by_cases hx : ∃ s, s < 2 ^ hv_N h ∧ x = nI s
  · have hx' := hx
    obtain ⟨s, hs, rfl⟩ := hx'
    have is1 : ∀ g : PH, g.1 17 0 = h.1 17 0 → f_X11_isSetOfPoints (nI s) g = some 1 := fun g e => by
      unfold f_X11_isSetOfPoints f_X6_all
      rw [e, w1, sh_all w2, pu_b1, if_pos ((set_in w2 _).mpr hx)]
    by_cases h0 : s = 0
    · right
      subst h0
      refine ⟨Or.inr ⟨is1, rfl⟩, fun g e => ?_⟩
      unfold f_X12_noSet
      rw [f_ini, nI_toInt (by decide), z1, if_neg (by omega), pu_b1, if_pos rfl]
    · left
      refine ⟨s, by omega, hs, ?_, rfl, is1, nI_ne0 (by omega) (by omega), fun g e => ?_⟩
      · rcases Nat.eq_zero_or_pos (hv_N h) with q | q
        · rw [q] at hs; simp at hs; omega
        · exact q
      · unfold f_X12_noSet
        rw [f_ini, e, w3, w1, sh_alll w2, nI_toInt (by omega), z1, if_pos (by omega), pu_b1, if_neg (by decide)]
  · right
    refine ⟨Or.inl fun g e => ?_, fun g e => ?_⟩
    · unfold f_X11_isSetOfPoints f_X6_all
      rw [e, w1, sh_all w2, pu_b1, if_neg (fun q => hx ((set_in w2 _).mp q))]
    · unfold f_X12_noSet
      rw [f_ini, e, w3, w1, sh_alll w2, z1, if_neg (fun q => hx ((in_set w2 _).mp ⟨by omega, q.2⟩)), pu_b1, if_pos rfl]
/-- kinds 0 and 1 -/
theorem rg_k1 (y : Int32) : (∃ kd : Nat, kd ≤ 1 ∧ y = nI kd ∧ ¬ y < 0 ∧ y ≤ 1 ∧ ∀ g : PH, f_X12_in y.toInt64 0 1 g = some 1) ∨ ((y < 0 ∨ (¬ y < 0 ∧ ¬ y ≤ 1)) ∧ ∀ g : PH, f_X12_in y.toInt64 0 1 g = some 0) := by
  have z0 : (0 : Int64).toInt = 0 := rfl
  have z1 : (1 : Int64).toInt = 1 := rfl
  have y1 : (1 : Int32).toInt = 1 := rfl
  by_cases hy : 0 ≤ y.toInt ∧ y.toInt ≤ 1
  · left
    obtain ⟨k, hk, rfl⟩ := ix_of hy.1 (n := 2) (by omega) (by omega)
    exact ⟨k, by omega, rfl, nI_nlt0 hy.1, by rw [i_le]; omega, fun g => by rw [f_ini, if_pos (by omega)]⟩
  · right
    refine ⟨?_, fun g => by rw [f_ini, if_neg (by omega)]⟩
    by_cases h0 : 0 ≤ y.toInt
    · exact Or.inr ⟨nI_nlt0 h0, by rw [i_le]; omega⟩
    · exact Or.inl (nI_lt0 (by omega))
theorem inv_od {n : Nat} {h g k : PH} (hi : Inv n h) (e1 : ∀ a, a ≠ 24 → a ≠ 25 → a ≠ 26 → g.1 a = h.1 a) (e2 : g.2 = h.2) (f1 : ∀ a, a ≠ 63 → k.1 a = g.1 a) (f3 : k.2 = g.2) : Inv (n + 1) k := by
  refine inv_frame hi (fun a ha => ?_) (fun j hj => ?_) ?_ ?_ (by rw [f3, e2])
  · rw [f1 a (fun q => by subst q; cases ha), e1 a (fun q => by subst q; cases ha) (fun q => by subst q; cases ha) (fun q => by subst q; cases ha)]
  · rw [f1 43 (by decide), e1 43 (by decide) (by decide) (by decide)]
  · rw [f1 0 (by decide), e1 0 (by decide) (by decide) (by decide)]
  · rw [f1 0 (by decide), e1 0 (by decide) (by decide) (by decide), f1 43 (by decide), e1 43 (by decide) (by decide) (by decide)]
    exact hi.2.1.1
theorem o_least {n : Nat} {h : PH} (hi : Inv n h) (x y : Int32) : ∃ r h1 h2, f_X11_least x y h = some (r, h1) ∧ f_X12_least x y h1 = some (r, h2) ∧ Inv (n + 1) h2 := by
  obtain ⟨hS, hF, hH, hX, hP, hW, hR, hC⟩ := id hi
  rcases rg_s1 hP x with ⟨s, s1, s2, s0, rfl, v1, v2, v3⟩ | ⟨v1, v3⟩
  rotate_left
  · refine ⟨-2, h, h, ?_, by simp [f_X12_least, v3 h rfl, pu_b1], inv_up hi⟩
    unfold f_X11_least
    rcases v1 with v1 | ⟨v1, v2⟩
    · rw [v1 h rfl, pu_b1, if_pos rfl]
    · rw [v1 h rfl, pu_b1, if_neg (by decide), if_pos v2]
  rcases rg_k1 y with ⟨kd, k1, rfl, u1, u2, u3⟩ | ⟨u1, u3⟩
  rotate_left
  · refine ⟨-2, h, h, ?_, by simp [f_X12_least, v3 h rfl, pu_b1, u3], inv_up hi⟩
    unfold f_X11_least
    rw [v1 h rfl, pu_b1, if_neg (by decide), if_neg v2]
    rcases u1 with u | ⟨u, u'⟩
    · rw [if_pos u]
    · rw [if_neg u, if_neg u']
  have hN := hP.1.2.1
  have hp2 := p2_le hN
  have hB := B_lt hH hP s0
  have hn := nD_h hH hX
  have hpl : ∀ p, p < hv_N h → hv_p h p < hv_P h := fun p hp => (hP.2 p hp).1.2.1
  obtain ⟨g, g1, g2, g3, g4, g5⟩ := c_orders (kd := kd) (w := s) (cQ_of hH hX hP) hn hH.2.1.1 hB s2 k1
  have lst := c_least (h := g) (a := 8) hn.1 hB hpl hN g4 s2 (by omega) (Or.inr rfl) (cW_at g5 (by omega) (Nat.le_refl s) (fun _ q => q))
  have e43 : g.1 43 = h.1 43 := g2 43 (by decide) (by decide) (by decide)
  have gq : mQ g (hv_P h) (hv_N h) (hv_B h) (hv_D h) (hv_p h) := mQ_fr (mQ_of hH hX hP hB) (g2 53 (by decide) (by decide) (by decide)) (g2 54 (by decide) (by decide) (by decide)) (by rw [e43]) (by rw [e43])
  obtain ⟨k, m1, m2, m3, m4⟩ := m_needs gq k1
  have v63 := m4 s 8 s2 (Or.inr rfl)
  have gd := Ty_good hn.1 hB hN hpl kd s2 (Or.inr rfl)
  generalize Ty (hv_D h) (hv_B h) (hv_p h) kd s 8 = v at *
  refine ⟨if v < 1000000 then nI v else -9, g, k, ?_, ?_, inv_od hi g2 g3 m2 m3⟩
  · unfold f_X11_least f_X0_leastFromBox
    have lst : f_X0_leastFrom (-1) (nI s) g = some (nI (ck v)) := lst
    have hcb := ck_b v
    rw [v1 h rfl, pu_b1, if_neg (by decide), if_neg v2, if_neg u1, if_pos u2, g1, pu_b2, lst, pu_b1, pu_b1, s_yon (by omega), pu_b1]
    by_cases hq : v < 1000000
    · rw [if_pos (ck_lt.mpr hq), if_pos hq, ck_s (by omega)]
    · rw [if_neg (fun z => hq (ck_lt.mp z)), if_neg hq]
  · have e9 : 9 * nI s + 8 = nI (9 * s + 8) := by
      show nI 9 * nI s + nI 8 = _
      rw [nI_mul, nI_add]
    unfold f_X12_least
    rw [v3 g (by rw [e43]), pu_b1, if_pos rfl, u3, pu_b1, if_neg (by decide), m1, pu_b2, e9, pu_gn (show 9 * s + 8 < 2304 by omega) (by decide), nI_clamp (by omega), v63, pu_lt]
    unfold cv
    by_cases hq : v < 1000000
    · rw [if_pos hq, if_pos hq, if_pos (show nI v < 10000000 from nI_lt (b := 10000000) (by omega) (by decide))]
    · rw [if_neg hq, if_neg hq, if_neg (by decide)]
/-- the point that comes first -/
theorem nx_ex {D : Nat → Nat → Nat} {B kd s a : Nat} {pl : Nat → Nat} (hs : s < 256) (h0 : s ≠ 0) (hf : Ty D B pl kd s a < 1000000) : ∃ q, q < 8 ∧ s.testBit q = true ∧ Gy D B pl a q + Ty D B pl kd (rm1 s q) q = Ty D B pl kd s a ∧ ∀ p, p < q → s.testBit p = true → Gy D B pl a p + Ty D B pl kd (rm1 s p) p ≠ Ty D B pl kd s a := by
  have hT : Ty D B pl kd s a = mnq s (fun q => Gy D B pl a q + Ty D B pl kd (rm1 s q) q) 8 := Tl_s _ _ hs h0 a
  rcases mnq_at (s := s) (f := fun q => Gy D B pl a q + Ty D B pl kd (rm1 s q) q) 8 with hz | ⟨q, q1, q2, q3⟩
  · rw [hT, hz] at hf; omega
  · obtain ⟨m, m1, m2, m3⟩ := least_of (fun q => s.testBit q = true ∧ Gy D B pl a q + Ty D B pl kd (rm1 s q) q = Ty D B pl kd s a) q ⟨q2, by rw [hT, q3]⟩
    exact ⟨m, by omega, m2.1, m2.2, fun p hp hb he => m3 p hp ⟨hb, he⟩⟩
theorem c_first {h : PH} {P N B kd s a q : Nat} {D : Nat → Nat → Nat} {pl : Nat → Nat} (hD : ∀ a b, a < P → b < P → D a b < 100000 ∨ D a b = 1000000) (hB : B < P) (hpl : ∀ p, p < N → pl p < P) (hN : N ≤ 8) (ht : cT h N D B pl) (hs : s < 2 ^ N) (h0 : s ≠ 0) (ha : a < N ∨ a = 8) (hr : ∀ q, s.testBit q = true → h.1 26 (8 * rm1 s q + q) = nI (ck (Ty D B pl kd (rm1 s q) q))) (hV : Ty D B pl kd s a < 1000000) (q1 : q < 8) (q2 : s.testBit q = true) (q3 : Gy D B pl a q + Ty D B pl kd (rm1 s q) q = Ty D B pl kd s a) (q4 : ∀ p, p < q → s.testBit p = true → Gy D B pl a p + Ty D B pl kd (rm1 s p) p ≠ Ty D B pl kd s a) : f_X0_firstFrom (ac a) (nI s) h = some (nI q) := by
  have h2 := p2_le hN
  have hb8 : ∀ q, s.testBit q = true → q < N := fun q hq => bit_lt hs hq
  have gT := ck_b (Ty D B pl kd s a)
  have hL : lp_f (fun t => lb_X0_firstFrom_10 (ac a) (nI s) (nI (ck (Ty D B pl kd s a))) h t) fu_l 0 = some (.inl (nI q)) := by
    refine lp_cnt (fun i => nI i) q _ (fun i hi => ?_) ?_ fu_l 0 (by omega) (by unfold fu_l; omega)
    · show lb_X0_firstFrom_10 (ac a) (nI s) (nI (ck (Ty D B pl kd s a))) h (nI i) = _
      unfold lb_X0_firstFrom_10
      rw [if_neg (show ¬ (8 : Int32) ≤ nI i from nI_ge (b := 8) (by omega) (by decide)), bt_t (by omega) (by omega)]
      by_cases hb : s.testBit i = true
      · have hrl := rm_le s i
        have g1 := Yd_g hD (pb_lt hB hpl ha) (hpl i (hb8 i hb))
        have g2 := ck_b (Ty D B pl kd (rm1 s i) i)
        have g3 : Gy D B pl a i + ck (Ty D B pl kd (rm1 s i) i) < 2 ^ 31 := by
          show Yd D (if a = 8 then B else pl a) (pl i) + ck (Ty D B pl kd (rm1 s i) i) < _
          omega
        rw [if_pos hb, if_neg (show ¬ (1 : Int32) = 0 by decide), c_over hN ht (by omega) ha (hb8 i hb) (hr i hb), pu_b1, if_neg (by rw [nI_eq g3 (by omega), ck_sum hV]; exact q4 i hi hb), pu_lt, ← nI_succ]
      · rw [if_neg hb, if_pos rfl, pu_lt, ← nI_succ]
    · show lb_X0_firstFrom_10 (ac a) (nI s) (nI (ck (Ty D B pl kd s a))) h (nI q) = _
      unfold lb_X0_firstFrom_10
      rw [if_neg (show ¬ (8 : Int32) ≤ nI q from nI_ge (b := 8) (by omega) (by decide)), bt_t (by omega) q1, if_pos q2, if_neg (show ¬ (1 : Int32) = 0 by decide), c_over hN ht (by omega) ha (hb8 q q2) (hr q q2), pu_b1, if_pos (by rw [(ck_sum hV).mpr q3])]
  unfold f_X0_firstFrom
  rw [c_least hD hB hpl hN ht hs h0 ha hr, pu_b1, hL, pu_b1]
  rfl
theorem cv_sum {G T V : Nat} (hG : G ≤ 99 ∨ G = 1000000) (hT : T ≤ 99 * 9 ∨ (1000000 ≤ T ∧ T ≤ 9000800)) (hV : V < 1000000) : (nI (cv G + cv T) = nI (cv V)) ↔ G + T = V := by
  have c1 := @cv_le G
  have c2 := @cv_le T
  have c3 := @cv_le V
  rw [nI_eq (by omega) (by omega)]
  unfold cv
  rw [if_pos hV]
  rcases hG with h1 | h1 <;> rcases hT with h2 | h2
  · rw [if_pos (by omega), if_pos (by omega)]
  · rw [if_pos (by omega), if_neg (by omega)]; omega
  · rw [if_neg (by omega), if_pos (by omega)]; omega
  · rw [if_neg (by omega), if_neg (by omega)]; omega
theorem m_first {h : PH} {P N B kd s a : Nat} {D : Nat → Nat → Nat} {pl : Nat → Nat} (x3 x7 : Int32) (hq : mQ h P N B D pl) (hs : s < 2 ^ N) (ha : a < N ∨ a = 8) (ht : ∀ s a, s < 2 ^ N → (a < N ∨ a = 8) → h.1 63 (9 * s + a) = nI (cv (Ty D B pl kd s a))) : (s = 0 → ∃ y, lp_f (fun t => lb_X12_order_92 x3 (nI s) (nI a) x7 h t.1 t.2) fu_l ((-9), nI N - 1) = some (-9, y)) ∧ ∀ q, q < 8 → s.testBit q = true → Ty D B pl kd s a < 1000000 → Gy D B pl a q + Ty D B pl kd (rm1 s q) q = Ty D B pl kd s a → (∀ p, p < q → s.testBit p = true → Gy D B pl a p + Ty D B pl kd (rm1 s p) p ≠ Ty D B pl kd s a) → ∃ y, lp_f (fun t => lb_X12_order_92 x3 (nI s) (nI a) x7 h t.1 t.2) fu_l ((-9), nI N - 1) = some (nI q, y) := by
  have hN := hq.2.1
  have h2 := p2_le hN
  have hpl : ∀ p, p < N → pl p < P := fun p hp => (hq.2.2.2.1 p hp).2
  have hD : ∀ a b, a < P → b < P → D a b < 100000 ∨ D a b = 1000000 := fun a b ha hb => (hq.1.2 a b ha hb).2
  have hB := hq.2.2.2.2.2
  have step : ∀ j (v : Int32), j < N → s.testBit j = false → lb_X12_order_92 x3 (nI s) (nI a) x7 h v (nI j) = some (.inl (v, nI j - 1)) := by
    intro j v hj hb
    unfold lb_X12_order_92
    rw [if_neg (nI_pos (by omega)), m_has (by omega) (by omega), hb, if_neg (show ¬ false = true by decide), pu_b1, if_pos rfl, if_pos rfl, pu_lt, Int32.sub_eq_add_neg]
  constructor
  · intro h0
    subst h0
    have hL : ∃ r, lp_f (fun t => lb_X12_order_92 x3 (nI 0) (nI a) x7 h t.1 t.2) fu_l ((-9), nI N - 1) = some r ∧ r.1 = -9 := by
      refine lp_0 (fun i t => t.1 = -9 ∧ t.2 = nI (N - i) - 1) _ N (by omega) ?_ ?_ _ ⟨rfl, rfl⟩
      · rintro i ⟨v, y⟩ hi ⟨e1, e2⟩
        left
        obtain ⟨j, hj⟩ : ∃ j, N - i = j + 1 := ⟨N - i - 1, by omega⟩
        obtain rfl : v = -9 := e1
        obtain rfl : y = nI j := by rw [← nI_pred, ← hj]; exact e2
        refine ⟨(-9, nI j - 1), step j (-9) (by omega) (Nat.zero_testBit j), rfl, ?_⟩
        show nI j - 1 = nI (N - (i + 1)) - 1
        rw [show N - (i + 1) = j by omega]
      · rintro ⟨v, y⟩ ⟨e1, e2⟩
        obtain rfl : y = nI (N - N) - 1 := e2
        refine ⟨(v, nI (N - N) - 1), ?_, e1⟩
        show lb_X12_order_92 x3 (nI 0) (nI a) x7 h v (nI (N - N) - 1) = _
        rw [Nat.sub_self]
        unfold lb_X12_order_92
        rw [if_pos (by decide)]
    obtain ⟨r, r1, r2⟩ := hL
    exact ⟨r.2, by rw [r1, ← r2]⟩
  · intro q q1 q2 hV q3 q4
    have hb8 : ∀ q, s.testBit q = true → q < N := fun q hq => bit_lt hs hq
    have hqN := hb8 q q2
    have stepb : ∀ j (v : Int32), s.testBit j = true → lb_X12_order_92 x3 (nI s) (nI a) x7 h v (nI j) = if Gy D B pl a j + Ty D B pl kd (rm1 s j) j = Ty D B pl kd s a then some (.inl (nI j, nI j - 1)) else some (.inl (v, nI j - 1)) := by
      intro j v hb
      have hj := hb8 j hb
      have hrl := rm_le s j
      have yb := m_yb hq ha (Or.inl hj)
      rw [if_neg (show ¬ j = 8 by omega)] at yb
      have g1 := Yd_g hD (pb_lt hB hpl ha) (hpl j hj)
      have g2 := Ty_good hD hB hN hpl kd (s := rm1 s j) (a := j) (by omega) (Or.inl hj)
      have cs := cv_sum (G := Gy D B pl a j) (T := Ty D B pl kd (rm1 s j) j) (V := Ty D B pl kd s a) g1 g2 hV
      have e9 : 9 * nI (rm1 s j) + nI j = nI (9 * rm1 s j + j) := by
        show nI 9 * nI (rm1 s j) + nI j = _
        rw [nI_mul, nI_add]
      have e8 : 9 * nI s + nI a = nI (9 * s + a) := by
        show nI 9 * nI s + nI a = _
        rw [nI_mul, nI_add]
      have yb : f_X12_yardsBy (nI a) (nI j) h = some (nI (cv (Gy D B pl a j))) := yb
      unfold lb_X12_order_92
      rw [if_neg (nI_pos (by omega)), m_has (by omega) (by omega), if_pos hb, pu_b1, if_neg (show ¬ (1 : Int32) = 0 by decide), yb, pu_b1, nI_rm (by omega), e9, pu_gn (show 9 * rm1 s j + j < 2304 by omega) (by decide), e8, pu_gn (show 9 * s + a < 2304 by omega) (by decide), nI_clamp (by omega), nI_clamp (by omega), ht (rm1 s j) j (by omega) (Or.inl hj), ht s a hs ha, nI_add, if_neg (show ¬ (1 : Int32) = 0 by decide), if_pos (show (0 : Int32) = 0 from rfl), pu_lt, pu_lt, Int32.sub_eq_add_neg]
      by_cases hz : Gy D B pl a j + Ty D B pl kd (rm1 s j) j = Ty D B pl kd s a
      · rw [if_pos (cs.mpr hz), if_pos hz]
      · rw [if_neg (fun w => hz (cs.mp w)), if_neg hz]
    have hL : ∃ r, lp_f (fun t => lb_X12_order_92 x3 (nI s) (nI a) x7 h t.1 t.2) fu_l ((-9), nI N - 1) = some r ∧ r.1 = nI q := by
      refine lp_0 (fun i t => (N - i ≤ q → t.1 = nI q) ∧ t.2 = nI (N - i) - 1) _ N (by omega) ?_ ?_ _ ⟨fun z => by omega, rfl⟩
      · rintro i ⟨v, y⟩ hi ⟨e1, e2⟩
        left
        obtain ⟨j, hj⟩ : ∃ j, N - i = j + 1 := ⟨N - i - 1, by omega⟩
        obtain rfl : y = nI j := by rw [← nI_pred, ← hj]; exact e2
        have e1 : N - i ≤ q → v = nI q := e1
        have ej : nI j - 1 = nI (N - (i + 1)) - 1 := by rw [show N - (i + 1) = j by omega]
        by_cases hb : s.testBit j = true
        · by_cases hz : Gy D B pl a j + Ty D B pl kd (rm1 s j) j = Ty D B pl kd s a
          · refine ⟨(nI j, nI j - 1), ?_, fun w => ?_, ej⟩
            · show lb_X12_order_92 x3 (nI s) (nI a) x7 h v (nI j) = _
              rw [stepb j v hb, if_pos hz]
            · show nI j = nI q
              have : ¬ j < q := fun w2 => q4 j w2 hb hz
              congr 1
              omega
          · refine ⟨(v, nI j - 1), ?_, fun w => ?_, ej⟩
            · show lb_X12_order_92 x3 (nI s) (nI a) x7 h v (nI j) = _
              rw [stepb j v hb, if_neg hz]
            · have : j ≠ q := fun w2 => hz (by rw [w2]; exact q3)
              exact e1 (by omega)
        · refine ⟨(v, nI j - 1), step j v (by omega) (by simpa using hb), fun w => ?_, ej⟩
          have : j ≠ q := fun w2 => hb (by rw [w2]; exact q2)
          exact e1 (by omega)
      · rintro ⟨v, y⟩ ⟨e1, e2⟩
        obtain rfl : y = nI (N - N) - 1 := e2
        refine ⟨(v, nI (N - N) - 1), ?_, e1 (by omega)⟩
        show lb_X12_order_92 x3 (nI s) (nI a) x7 h v (nI (N - N) - 1) = _
        rw [Nat.sub_self]
        unfold lb_X12_order_92
        rw [if_pos (by decide)]
    obtain ⟨r, r1, r2⟩ := hL
    exact ⟨r.2, by rw [r1, ← r2]⟩
/-- both go along the order -/
theorem both_order {h g : PH} {P N B kd set k : Nat} {D : Nat → Nat → Nat} {pl : Nat → Nat} (hn : nD P D) (hB : B < P) (hpl : ∀ p, p < N → pl p < P) (hN : N ≤ 8) (hset : set < 2 ^ N) (hk : k < 8) (ct : cT h N D B pl) (cw : cW h D B pl kd set set) (mq : mQ g P N B D pl) (mt : ∀ s a, s < 2 ^ N → (a < N ∨ a = 8) → g.1 63 (9 * s + a) = nI (cv (Ty D B pl kd s a))) : ∀ (d x s a F : Nat) (t : Int32), x + d = k → s < 2 ^ N → sub s set → (a < N ∨ a = 8) → (s = 0 ∨ Ty D B pl kd s a < 1000000) → d + 2 < F → ∃ r : Int32, ∃ u w, lp_f (fun z => lb_X0_stopOfOrder_8 (nI k) h z.1 z.2.1 z.2.2) F (ac a, nI s, nI x) = some u ∧ lp_f (fun z => lb_X12_order_74 (nI k) g z.1 z.2.1 z.2.2.1 z.2.2.2) F (nI s, nI a, t, nI x) = some w ∧ ((u = .inl r ∧ ∃ e : Int32 × Int32 × Int32 × Int32, w = .inr e ∧ e.2.2.1 = r) ∨ (r = -9 ∧ (∃ e, u = .inr e) ∧ w = .inl (-9, g))) := by
  have h2 := p2_le hN
  have m19 : g.1 43 19 = nI N := mq.2.2.1
  intro d
  induction d with
  | zero =>
    intro x s a F t hx hs hsub ha hf hF
    obtain rfl : x = k := by omega
    obtain ⟨F', rfl⟩ : ∃ F', F = F' + 1 + 1 := ⟨F - 2, by omega⟩
    obtain ⟨mf0, mf1⟩ := m_first (nI x) (nI x) mq hs ha mt
    by_cases h0 : s = 0
    · subst h0
      obtain ⟨y, hy⟩ := mf0 rfl
      refine ⟨-9, .inr (ac a, nI 0, nI x), .inl (-9, g), lp_r ?_, lp_r ?_, Or.inr ⟨rfl, ⟨_, rfl⟩, rfl⟩⟩
      · show lb_X0_stopOfOrder_8 (nI x) h (ac a) (nI 0) (nI x) = _
        unfold lb_X0_stopOfOrder_8
        rw [if_neg (nI_nlt (Nat.le_refl _) (by omega)), if_pos (show nI 0 = 0 from rfl)]
      · show lb_X12_order_74 (nI x) g (nI 0) (nI a) t (nI x) = _
        unfold lb_X12_order_74
        rw [if_neg (nI_nlt (Nat.le_refl _) (by omega)), m19, pu_lt, hy, pu_b1, if_neg (show ¬ (0 : Int32) ≤ -9 by decide)]
    · have hf := hf.resolve_left h0
      obtain ⟨q, q1, q2, q3, q4⟩ := nx_ex (show s < 256 by omega) h0 hf
      obtain ⟨y, hy⟩ := mf1 q q1 q2 hf q3 q4
      have cf := c_first hn.1 hB hpl hN ct hs h0 ha (cW_at cw (by omega) (by
        by_cases hle : s ≤ set
        · exact hle
        · exfalso
          have : s &&& set = s := by
            apply set_ext
            intro p
            rw [Nat.testBit_and, Bool.and_eq_true]
            exact ⟨fun z => z.1, fun z => ⟨z, hsub p z⟩⟩
          have h3 : s &&& set ≤ set := Nat.and_le_right
          omega) hsub) hf q1 q2 q3 q4
      have e2 : lb_X12_order_74 (nI x) g (nI s) (nI a) t (nI x) = some (.inl (nI (rm1 s q), nI q, nI q, nI (x + 1))) := by
        unfold lb_X12_order_74
        rw [if_neg (nI_nlt (Nat.le_refl _) (by omega)), m19, pu_lt, hy, pu_b1, if_pos (nI_pos' (by omega)), nI_rm q1, pu_lt, pu_lt, ← nI_succ]
      refine ⟨nI q, .inl (nI q), .inr (nI (rm1 s q), nI q, nI q, nI (x + 1)), lp_r ?_, ?_, Or.inl ⟨rfl, _, rfl, rfl⟩⟩
      · show lb_X0_stopOfOrder_8 (nI x) h (ac a) (nI s) (nI x) = _
        unfold lb_X0_stopOfOrder_8
        rw [if_neg (nI_nlt (Nat.le_refl _) (by omega)), if_neg (nI_ne0 (by omega) (by omega)), cf, pu_b1, pu_lt, if_pos rfl]
      · rw [lp_s (body := fun z => lb_X12_order_74 (nI x) g z.1 z.2.1 z.2.2.1 z.2.2.2) (s := (nI s, nI a, t, nI x)) e2]
        apply lp_r
        show lb_X12_order_74 (nI x) g (nI (rm1 s q)) (nI q) (nI q) (nI (x + 1)) = _
        unfold lb_X12_order_74
        rw [if_pos (nI_lt (by omega) (by omega))]
  | succ d ih =>
    intro x s a F t hx hs hsub ha hf hF
    obtain ⟨F', rfl⟩ : ∃ F', F = F' + 1 := ⟨F - 1, by omega⟩
    obtain ⟨mf0, mf1⟩ := m_first (nI k) (nI x) mq hs ha mt
    by_cases h0 : s = 0
    · subst h0
      obtain ⟨y, hy⟩ := mf0 rfl
      refine ⟨-9, .inr (ac a, nI 0, nI x), .inl (-9, g), lp_r ?_, lp_r ?_, Or.inr ⟨rfl, ⟨_, rfl⟩, rfl⟩⟩
      · show lb_X0_stopOfOrder_8 (nI k) h (ac a) (nI 0) (nI x) = _
        unfold lb_X0_stopOfOrder_8
        rw [if_neg (nI_nlt (by omega) (by omega)), if_pos (show nI 0 = 0 from rfl)]
      · show lb_X12_order_74 (nI k) g (nI 0) (nI a) t (nI x) = _
        unfold lb_X12_order_74
        rw [if_neg (nI_nlt (by omega) (by omega)), m19, pu_lt, hy, pu_b1, if_neg (show ¬ (0 : Int32) ≤ -9 by decide)]
    · have hf := hf.resolve_left h0
      obtain ⟨q, q1, q2, q3, q4⟩ := nx_ex (show s < 256 by omega) h0 hf
      obtain ⟨y, hy⟩ := mf1 q q1 q2 hf q3 q4
      have hle : s ≤ set := by
        by_cases hle : s ≤ set
        · exact hle
        · exfalso
          have : s &&& set = s := by
            apply set_ext
            intro p
            rw [Nat.testBit_and, Bool.and_eq_true]
            exact ⟨fun z => z.1, fun z => ⟨z, hsub p z⟩⟩
          have h3 : s &&& set ≤ set := Nat.and_le_right
          omega
      have cf := c_first hn.1 hB hpl hN ct hs h0 ha (cW_at cw (by omega) hle hsub) hf q1 q2 q3 q4
      have qN := bit_lt hs q2
      have hrl := rm_le s q
      have e1 : lb_X0_stopOfOrder_8 (nI k) h (ac a) (nI s) (nI x) = some (.inl (ac q, nI (rm1 s q), nI (x + 1))) := by
        unfold lb_X0_stopOfOrder_8
        rw [if_neg (nI_nlt (by omega) (by omega)), if_neg (nI_ne0 (by omega) (by omega)), cf, pu_b1, nI_rm q1, pu_lt, if_neg (fun z => by have := nI_inj z (by omega) (by omega); omega), pu_lt, ← nI_succ, show ac q = nI q from if_neg (by omega)]
      have e2 : lb_X12_order_74 (nI k) g (nI s) (nI a) t (nI x) = some (.inl (nI (rm1 s q), nI q, nI q, nI (x + 1))) := by
        unfold lb_X12_order_74
        rw [if_neg (nI_nlt (by omega) (by omega)), m19, pu_lt, hy, pu_b1, if_pos (nI_pos' (by omega)), nI_rm q1, pu_lt, pu_lt, ← nI_succ]
      obtain ⟨r, u, w, r1, r2, r3⟩ := ih (x + 1) (rm1 s q) q F' (nI q) (by omega) (by omega) (fun p hp => hsub p ((rm_bit (by omega) p).mp hp).1) (Or.inl qN) (Or.inr (by omega)) (by omega)
      refine ⟨r, u, w, ?_, ?_, r3⟩
      · rw [lp_s (body := fun z => lb_X0_stopOfOrder_8 (nI k) h z.1 z.2.1 z.2.2) (s := (ac a, nI s, nI x)) e1]
        exact r1
      · rw [lp_s (body := fun z => lb_X12_order_74 (nI k) g z.1 z.2.1 z.2.2.1 z.2.2.2) (s := (nI s, nI a, t, nI x)) e2]
        exact r2
theorem o_order {n : Nat} {h : PH} (hi : Inv n h) (x y z : Int32) : ∃ r h1 h2, f_X11_order x y z h = some (r, h1) ∧ f_X12_order x y z h1 = some (r, h2) ∧ Inv (n + 1) h2 := by
  obtain ⟨hS, hF, hH, hX, hP, hW, hR, hC⟩ := id hi
  have z0 : (0 : Int64).toInt = 0 := rfl
  have z7 : (7 : Int64).toInt = 7 := rfl
  have y8 : (8 : Int32).toInt = 8 := rfl
  rcases rg_s1 hP x with ⟨s, s1, s2, s0, rfl, v1, v2, v3⟩ | ⟨v1, v3⟩
  rotate_left
  · refine ⟨-2, h, h, ?_, by simp [f_X12_order, v3 h rfl, pu_b1], inv_up hi⟩
    unfold f_X11_order
    rcases v1 with v1 | ⟨v1, v2⟩
    · rw [v1 h rfl, pu_b1, if_pos rfl]
    · rw [v1 h rfl, pu_b1, if_neg (by decide), if_pos v2]
  rcases rg_k1 y with ⟨kd, k1, rfl, u1, u2, u3⟩ | ⟨u1, u3⟩
  rotate_left
  · refine ⟨-2, h, h, ?_, by simp [f_X12_order, v3 h rfl, pu_b1, u3], inv_up hi⟩
    unfold f_X11_order
    rw [v1 h rfl, pu_b1, if_neg (by decide), if_neg v2]
    rcases u1 with u | ⟨u, u'⟩
    · rw [if_pos u]
    · rw [if_neg u, if_neg u']
  by_cases hz : 0 ≤ z.toInt ∧ z.toInt < 8
  rotate_left
  · refine ⟨-1, h, h, ?_, ?_, inv_up hi⟩
    · unfold f_X11_order
      rw [v1 h rfl, pu_b1, if_neg (by decide), if_neg v2, if_neg u1, if_pos u2]
      by_cases h0 : 0 ≤ z.toInt
      · rw [if_neg (nI_nlt0 h0), if_neg (show ¬ z < 8 by rw [i_lt]; omega)]
      · rw [if_pos (nI_lt0 (by omega))]
    · unfold f_X12_order
      rw [v3 h rfl, pu_b1, if_pos rfl, u3, pu_b1, if_neg (by decide), f_ini, if_neg (by omega), pu_b1, if_pos rfl]
  obtain ⟨j, hj, rfl⟩ := ix_of hz.1 (n := 8) (by omega) (by omega)
  have hN := hP.1.2.1
  have hp2 := p2_le hN
  have hB := B_lt hH hP s0
  have hn := nD_h hH hX
  have hpl : ∀ p, p < hv_N h → hv_p h p < hv_P h := fun p hp => (hP.2 p hp).1.2.1
  obtain ⟨g, g1, g2, g3, g4, g5⟩ := c_orders (kd := kd) (w := s) (cQ_of hH hX hP) hn hH.2.1.1 hB s2 k1
  have lst := c_least (h := g) (a := 8) hn.1 hB hpl hN g4 s2 (by omega) (Or.inr rfl) (cW_at g5 (by omega) (Nat.le_refl s) (fun _ q => q))
  have e43 : g.1 43 = h.1 43 := g2 43 (by decide) (by decide) (by decide)
  have gq : mQ g (hv_P h) (hv_N h) (hv_B h) (hv_D h) (hv_p h) := mQ_fr (mQ_of hH hX hP hB) (g2 53 (by decide) (by decide) (by decide)) (g2 54 (by decide) (by decide) (by decide)) (by rw [e43]) (by rw [e43])
  obtain ⟨k, m1, m2, m3, m4⟩ := m_needs gq k1
  have v63 := m4 s 8 s2 (Or.inr rfl)
  have gd := Ty_good hn.1 hB hN hpl kd s2 (Or.inr rfl)
  have kq : mQ k (hv_P h) (hv_N h) (hv_B h) (hv_D h) (hv_p h) := mQ_fr gq (m2 53 (by decide)) (m2 54 (by decide)) (by rw [m2 43 (by decide)]) (by rw [m2 43 (by decide)])
  have i1 : f_X12_in (nI j).toInt64 0 7 g = some 1 := by rw [f_ini, nI_toInt (by omega), if_pos (by omega)]
  have lst : f_X0_leastFrom (-1) (nI s) g = some (nI (ck (Ty (hv_D h) (hv_B h) (hv_p h) kd s 8))) := lst
  have hcb := ck_b (Ty (hv_D h) (hv_B h) (hv_p h) kd s 8)
  have e9 : 9 * nI s + 8 = nI (9 * s + 8) := by
    show nI 9 * nI s + nI 8 = _
    rw [nI_mul, nI_add]
  have cl : f_X11_order (nI s) (nI kd) (nI j) h = if nI (ck (Ty (hv_D h) (hv_B h) (hv_p h) kd s 8)) < 1000000 then (bd_1 (f_X0_stopOfOrder (nI s) (nI j) g) fun r_5 => some (r_5, g)) else some ((-9), g) := by
    unfold f_X11_order f_X0_leastFromBox
    rw [v1 h rfl, pu_b1, if_neg (by decide), if_neg v2, if_neg u1, if_pos u2, if_neg (nI_pos (by omega)), if_pos (show nI j < 8 from nI_lt (b := 8) hj (by decide)), g1, pu_b2, lst, pu_b1, pu_b1]
  have ml : f_X12_order (nI s) (nI kd) (nI j) g = if nI (cv (Ty (hv_D h) (hv_B h) (hv_p h) kd s 8)) < 10000000 then (bd_1 (lp_f (fun s => lb_X12_order_74 (nI j) k s.1 s.2.1 s.2.2.1 s.2.2.2) fu_l (nI s, 8, (-9), 0)) fun s_51 => sw_b s_51 (fun r_53 => some r_53) fun e_52 => some (e_52.2.2.1, k)) else some ((-9), k) := by
    unfold f_X12_order
    rw [v3 g (by rw [e43]), pu_b1, if_pos rfl, u3, pu_b1, if_neg (by decide), i1, pu_b1, if_neg (by decide), m1, pu_b2, e9, pu_gn (show 9 * s + 8 < 2304 by omega) (by decide), nI_clamp (by omega), v63]
  by_cases hq : Ty (hv_D h) (hv_B h) (hv_p h) kd s 8 < 1000000
  · obtain ⟨r, u, w, r1, r2, r3⟩ := both_order (kd := kd) (k := j) hn hB hpl hN s2 hj g4 g5 kq m4 j 0 s 8 fu_l (-9) (by omega) s2 (fun _ q => q) (Or.inr rfl) (Or.inr hq) (by unfold fu_l; omega)
    rw [if_pos (show nI (ck (Ty (hv_D h) (hv_B h) (hv_p h) kd s 8)) < 1000000 from nI_lt (b := 1000000) (ck_lt.mpr hq) (by decide))] at cl
    have hcv : cv (Ty (hv_D h) (hv_B h) (hv_p h) kd s 8) = Ty (hv_D h) (hv_B h) (hv_p h) kd s 8 := if_pos hq
    rw [hcv, if_pos (show nI (Ty (hv_D h) (hv_B h) (hv_p h) kd s 8) < 10000000 from nI_lt (b := 10000000) (by omega) (by decide))] at ml
    have r1 : lp_f (fun z => lb_X0_stopOfOrder_8 (nI j) g z.1 z.2.1 z.2.2) fu_l ((-1), nI s, 0) = some u := r1
    have r2 : lp_f (fun z => lb_X12_order_74 (nI j) k z.1 z.2.1 z.2.2.1 z.2.2.2) fu_l (nI s, 8, (-9), 0) = some w := r2
    refine ⟨r, g, k, ?_, ?_, inv_od hi g2 g3 m2 m3⟩
    · rw [cl]
      unfold f_X0_stopOfOrder
      rw [r1, pu_b1]
      rcases r3 with ⟨rfl, _⟩ | ⟨rfl, ⟨e, rfl⟩, _⟩
      · rfl
      · rfl
    · rw [ml, r2, pu_b1]
      rcases r3 with ⟨_, e, rfl, rfl⟩ | ⟨rfl, _, rfl⟩
      · rfl
      · rfl
  · refine ⟨-9, g, k, ?_, ?_, inv_od hi g2 g3 m2 m3⟩
    · rw [cl, if_neg (show ¬ nI (ck (Ty (hv_D h) (hv_B h) (hv_p h) kd s 8)) < 1000000 from nI_nlt (b := 1000000) (by rw [ck_f (by omega)]; exact Nat.le_refl _) (by omega))]
    · have hcv : cv (Ty (hv_D h) (hv_B h) (hv_p h) kd s 8) = 10000000 := if_neg hq
      rw [ml, hcv, if_neg (by decide)]
