/-! METERS: the reference's counting; fits and next -/
theorem m_cnt {h : PH} {N M x1 : Nat} {ld st sh : Nat → Nat} (X : Int32) (hN : N ≤ 8) (hM : M ≤ 12) (hld : ∀ p, p < N → ld p ≤ 20) (h19 : h.1 43 19 = nI N) (h55 : ∀ p, p < N → h.1 55 p = nI (ld p)) (h37 : h.1 43 37 = nI M) (h65 : ∀ k, k < M → h.1 65 k = nI (st k)) (h66 : ∀ k, k < M → h.1 66 k = nI (sh k) ∧ sh k ≤ 200) : ∃ r, lp_f (fun s => lb_X12_fits_35 X (nI (2 ^ N - 1)) h s.1 s.2.1 s.2.2.1 s.2.2.2) fu_l (0, nI (2 ^ N - 1), 0, 0) = some r ∧ r.1 = nI (cn (fb ld N st sh M) (2 ^ N)) ∧ r.2.1 = nI (sf (fun p => decide (∀ i, i < 2 ^ N → fb ld N st sh M i = true → i.testBit p = true)) N) ∧ r.2.2.1 = nI (sf (fun p => !decide (∀ i, i < 2 ^ N → (fb ld N st sh M i && i.testBit p) = false)) N) := by
  have h2 := p2_le hN
  have h2p := Nat.two_pow_pos N
  generalize hf : fb ld N st sh M = f
  refine lp_0 (fun i s => s.1 = nI (cn f i) ∧ s.2.1 = nI (sf (fun p => decide (∀ j, j < i → f j = true → j.testBit p = true)) N) ∧ s.2.2.1 = nI (sf (fun p => !decide (∀ j, j < i → (f j && j.testBit p) = false)) N) ∧ s.2.2.2 = nI i) _ (2 ^ N) (by omega) ?_ ?_ _ ⟨rfl, ?_, ?_, rfl⟩
  · rintro i ⟨x, y, z, u⟩ hi ⟨e1, e2, e3, e4⟩
    left
    have e1 : x = nI (cn f i) := e1
    have e2 : y = _ := e2
    have e3 : z = _ := e3
    have e4 : u = nI i := e4
    subst e1 e2 e3 e4
    have hd := m_fit (h := h) (mine := i) (ld := ld) (st := st) (sh := sh) hN hM hi hld h19 h55 h37 h65 h66
    rw [hf] at hd
    have hc : ¬ nI (2 ^ N - 1) < nI i := nI_nlt (by omega) (by omega)
    by_cases hb : f i = true
    · refine ⟨(nI (cn f (i + 1)), nI (sf (fun p => decide (∀ j, j < i + 1 → f j = true → j.testBit p = true)) N), nI (sf (fun p => !decide (∀ j, j < i + 1 → (f j && j.testBit p) = false)) N), nI (i + 1)), ?_, rfl, rfl, rfl, rfl⟩
      show lb_X12_fits_35 X (nI (2 ^ N - 1)) h _ _ _ (nI i) = _
      unfold lb_X12_fits_35
      rw [if_neg hc, hd, pu_b1, hb, if_pos rfl, if_neg (by decide), pu_lt, pu_lt, pu_lt, pu_lt, ← nI_succ, ← nI_succ, nI_and, nI_or]
      have t1 : cn f (i + 1) = cn f i + 1 := by
        show cn f i + _ = _
        rw [hb]
        rfl
      have t2 : sf (fun p => decide (∀ j, j < i → f j = true → j.testBit p = true)) N &&& i = sf (fun p => decide (∀ j, j < i + 1 → f j = true → j.testBit p = true)) N := by
        apply set_ext
        intro p
        rw [Nat.testBit_and, Bool.and_eq_true, sf_bit, sf_bit, decide_eq_true_iff, decide_eq_true_iff]
        constructor
        · rintro ⟨⟨a1, a2⟩, a3⟩
          refine ⟨a1, fun j hj hfj => ?_⟩
          by_cases hji : j = i
          · subst hji; exact a3
          · exact a2 j (by omega) hfj
        · rintro ⟨a1, a2⟩
          exact ⟨⟨a1, fun j hj => a2 j (by omega)⟩, a2 i (by omega) hb⟩
      have t3 : sf (fun p => !decide (∀ j, j < i → (f j && j.testBit p) = false)) N ||| i = sf (fun p => !decide (∀ j, j < i + 1 → (f j && j.testBit p) = false)) N := by
        apply set_ext
        intro p
        rw [Nat.testBit_or, Bool.or_eq_true, sf_bit, sf_bit, Bool.not_eq_true', Bool.not_eq_true', decide_eq_false_iff_not, decide_eq_false_iff_not]
        constructor
        · rintro (⟨a1, a2⟩ | a3)
          · exact ⟨a1, fun q => a2 (fun j hj => q j (by omega))⟩
          · refine ⟨bit_lt hi a3, fun q => ?_⟩
            have := q i (by omega)
            rw [hb, a3] at this
            cases this
        · rintro ⟨a1, a2⟩
          by_cases hp : i.testBit p = true
          · exact Or.inr hp
          · refine Or.inl ⟨a1, fun q => a2 (fun j hj => ?_)⟩
            by_cases hji : j = i
            · subst hji
              rw [show j.testBit p = false by simpa using hp, Bool.and_false]
            · exact q j (by omega)
      rw [t1, t2, t3]
    · have hb' : f i = false := by simpa using hb
      refine ⟨(nI (cn f (i + 1)), nI (sf (fun p => decide (∀ j, j < i + 1 → f j = true → j.testBit p = true)) N), nI (sf (fun p => !decide (∀ j, j < i + 1 → (f j && j.testBit p) = false)) N), nI (i + 1)), ?_, rfl, rfl, rfl, rfl⟩
      show lb_X12_fits_35 X (nI (2 ^ N - 1)) h _ _ _ (nI i) = _
      unfold lb_X12_fits_35
      rw [if_neg hc, hd, pu_b1, hb', if_neg (show ¬ false = true by decide), if_pos rfl, pu_lt, ← nI_succ]
      have t1 : cn f (i + 1) = cn f i := by
        show cn f i + _ = _
        rw [hb']
        rfl
      have t2 : sf (fun p => decide (∀ j, j < i → f j = true → j.testBit p = true)) N = sf (fun p => decide (∀ j, j < i + 1 → f j = true → j.testBit p = true)) N := by
        apply set_ext
        intro p
        rw [sf_bit, sf_bit, decide_eq_true_iff, decide_eq_true_iff]
        constructor
        · rintro ⟨a1, a2⟩
          refine ⟨a1, fun j hj hfj => ?_⟩
          by_cases hji : j = i
          · subst hji; rw [hb'] at hfj; cases hfj
          · exact a2 j (by omega) hfj
        · rintro ⟨a1, a2⟩
          exact ⟨a1, fun j hj => a2 j (by omega)⟩
      have t3 : sf (fun p => !decide (∀ j, j < i → (f j && j.testBit p) = false)) N = sf (fun p => !decide (∀ j, j < i + 1 → (f j && j.testBit p) = false)) N := by
        apply set_ext
        intro p
        rw [sf_bit, sf_bit, Bool.not_eq_true', Bool.not_eq_true', decide_eq_false_iff_not, decide_eq_false_iff_not]
        constructor
        · rintro ⟨a1, a2⟩
          exact ⟨a1, fun q => a2 (fun j hj => q j (by omega))⟩
        · rintro ⟨a1, a2⟩
          refine ⟨a1, fun q => a2 (fun j hj => ?_)⟩
          by_cases hji : j = i
          · subst hji
            rw [hb', Bool.false_and]
          · exact q j (by omega)
      rw [t1, t2, t3]
  · rintro ⟨x, y, z, u⟩ ⟨e1, e2, e3, e4⟩
    have e4 : u = nI (2 ^ N) := e4
    subst e4
    refine ⟨(x, y, z, nI (2 ^ N)), ?_, e1, e2, e3⟩
    show lb_X12_fits_35 X (nI (2 ^ N - 1)) h _ _ _ (nI (2 ^ N)) = _
    unfold lb_X12_fits_35
    rw [if_pos (nI_lt (by omega) (by omega))]
  · show nI (2 ^ N - 1) = _
    congr 1
    apply set_ext
    intro p
    rw [Nat.testBit_two_pow_sub_one, sf_bit, decide_eq_true_iff, decide_eq_true_iff]
    exact ⟨fun h => ⟨h, fun j hj => by omega⟩, fun h => h.1⟩
  · have sz : ∀ c : Nat → Bool, (∀ p, c p = false) → sf c N = 0 := fun c hc => set_0 (fun p => by
      cases hq : (sf c N).testBit p with
      | false => rfl
      | true =>
        rw [sf_bit, hc p] at hq
        cases hq.2)
    show (0 : Int32) = nI (sf _ N)
    rw [sz _ (fun p => by simp)]
    rfl
/-- what both see of points and readings -/
theorem rd_all {n : Nat} {h : PH} (hi : Inv n h) : ∃ st sh : Nat → Nat, (∀ k, k < hv_M h → h.1 38 k = nI (st k) ∧ h.1 65 k = nI (st k)) ∧ ∀ k, k < hv_M h → h.1 39 k = nI (sh k) ∧ h.1 66 k = nI (sh k) ∧ sh k ≤ 200 := by
  have hR := hi.2.2.2.2.2.2.1
  refine ⟨fun k => (h.1 38 k).toNatClampNeg, fun k => (h.1 39 k).toNatClampNeg, fun k hk => ?_, fun k hk => ?_⟩
  · obtain ⟨q1, q2, ⟨s, q3, q4⟩, _⟩ := hR.2 k hk
    have hN := hi.2.2.2.2.1.1.2.1
    have := p2_le hN
    show h.1 38 k = nI ((h.1 38 k).toNatClampNeg) ∧ h.1 65 k = nI ((h.1 38 k).toNatClampNeg)
    rw [q1, q4, nI_clamp (show s < 2 ^ 31 by omega)]
    exact ⟨rfl, rfl⟩
  · obtain ⟨q1, q2, _, ⟨v, q3, q4⟩⟩ := hR.2 k hk
    show h.1 39 k = nI ((h.1 39 k).toNatClampNeg) ∧ h.1 66 k = nI ((h.1 39 k).toNatClampNeg) ∧ (h.1 39 k).toNatClampNeg ≤ 200
    rw [q2, q4, nI_clamp (show v < 2 ^ 31 by omega)]
    exact ⟨rfl, rfl, q3⟩
theorem inv_wg {n : Nat} {h g : PH} {f : Nat → Bool} {m : Nat} (hi : Inv n h) (hw : wgd h g f m) : Inv (n + 1) g := by
  obtain ⟨hS, hF, hH, hX, hP, hW, hR, hC⟩ := hi
  obtain ⟨e, e37, e2, _⟩ := hw
  have E : ∀ a, a ≠ 37 → a ≠ 40 → a ≠ 41 → g.1 a = h.1 a := e
  have e22 : g.2.2 = h.2.2 := by rw [e2]
  refine ⟨?_, ⟨by rw [E 0 (by decide) (by decide) (by decide), E 43 (by decide) (by decide) (by decide)]; exact hF.1, by rw [E 42 (by decide) (by decide) (by decide), E 43 (by decide) (by decide) (by decide)]; exact hF.2⟩, ?_, ?_, ?_, ?_, ?_, fr_C hC (fun a ha => E a (by omega) (by omega) (by omega)) e22⟩
  · apply fr_S hS <;> exact E _ (by decide) (by decide) (by decide)
  · apply fr_H hH <;> first | exact E _ (by decide) (by decide) (by decide) | exact congrFun (E _ (by decide) (by decide) (by decide)) _
  · apply fr_X hX <;> first | exact E _ (by decide) (by decide) (by decide) | exact congrFun (E _ (by decide) (by decide) (by decide)) _
  · apply fr_P hP <;> first | exact E _ (by decide) (by decide) (by decide) | exact congrFun (E _ (by decide) (by decide) (by decide)) _
  · apply fr_W hW <;> first | exact E _ (by decide) (by decide) (by decide) | exact congrFun (E _ (by decide) (by decide) (by decide)) _ | exact (fun a ha => E a (by omega) (by omega) (by omega)) | exact e22
  · apply fr_R hR <;> first | exact e37 0 (by decide) | exact E _ (by decide) (by decide) (by decide) | exact congrFun (E _ (by decide) (by decide) (by decide)) _
theorem o_fits {n : Nat} {h : PH} (hi : Inv n h) (x : Int32) : ∃ r h1 h2, f_X11_fits x h = some (r, h1) ∧ f_X12_fits x h1 = some r ∧ h2 = h1 ∧ Inv (n + 1) h2 := by
  have z0 : (0 : Int64).toInt = 0 := rfl
  have z2 : (2 : Int64).toInt = 2 := rfl
  have y2 : (2 : Int32).toInt = 2 := rfl
  have hP := hi.2.2.2.2.1
  have hR := hi.2.2.2.2.2.2.1
  obtain ⟨st, sh, hst, hsh⟩ := rd_all hi
  have hN := hP.1.2.1
  have hM := hR.1.2.1
  have h2 := p2_le hN
  by_cases hx : 0 ≤ x.toInt ∧ x.toInt ≤ 2
  · obtain ⟨g, g1, g2⟩ := s_weigh (h := h) (ld := hv_l h) (st := st) (sh := sh) hN hM (fun p hp => (hP.2 p hp).2.1.2.2.1) hP.1.1 (fun p hp => (hP.2 p hp).2.1.1) hR.1.1 (fun k hk => (hst k hk).1) (fun k hk => ⟨(hsh k hk).1, (hsh k hk).2.2⟩)
    obtain ⟨e, e37, e2, e4, e5⟩ := id g2
    have g43 : g.1 43 = h.1 43 := e 43 (by decide) (by decide) (by decide)
    have g19 : g.1 43 19 = nI (hv_N h) := by rw [g43, hP.1.2.2]; exact hP.1.1
    obtain ⟨r, r1, r2, r3, r4⟩ := m_cnt (h := g) (ld := hv_l h) (st := st) (sh := sh) x (x1 := 0) hN hM (fun p hp => (hP.2 p hp).2.1.2.2.1) g19 (fun p hp => by rw [e 55 (by decide) (by decide) (by decide), (hP.2 p hp).2.1.2.2.2]; exact (hP.2 p hp).2.1.1) (by rw [g43, hR.1.2.2]; exact hR.1.1) (fun k hk => by rw [e 65 (by decide) (by decide) (by decide)]; exact (hst k hk).2) (fun k hk => by rw [e 66 (by decide) (by decide) (by decide)]; exact (hsh k hk).2)
    generalize fb (hv_l h) (hv_N h) st sh (hv_M h) = f at *
    have hcn := cn_le f (2 ^ hv_N h)
    have hcw : ∀ p, p < 8 → cn (fun i => f i && i.testBit p) (2 ^ hv_N h) ≤ 256 := fun p _ => by have := cn_le (fun i => f i && i.testBit p) (2 ^ hv_N h); omega
    have g17 : g.1 17 0 = nI (hv_N h) := by rw [e 17 (by decide) (by decide) (by decide)]; exact hP.1.1
    have cl : f_X11_fits x h = if x = 0 then some (g.1 37 1, g) else if x = 1 then some (nI (if cn f (2 ^ hv_N h) = 0 then 0 else sf (fun p => decide (cn (fun i => f i && i.testBit p) (2 ^ hv_N h) = cn f (2 ^ hv_N h))) (hv_N h)), g) else some (nI (if cn f (2 ^ hv_N h) = 0 then 0 else sf (fun p => decide (cn (fun i => f i && i.testBit p) (2 ^ hv_N h) = 0)) (hv_N h)), g) := by
      unfold f_X11_fits
      rw [if_neg (nI_nlt0 hx.1), if_pos (show x ≤ 2 by rw [i_le]; omega), g1, pu_b2, g17, s_ofAll (w := fun p => cn (fun i => f i && i.testBit p) (2 ^ hv_N h)) hN (by omega) hcw e4 e5, s_ofNone (w := fun p => cn (fun i => f i && i.testBit p) (2 ^ hv_N h)) hN (by omega) hcw e4 e5, pu_b1, pu_b1]
    have mo : f_X12_fits x g = if x = 0 then some r.1 else if r.1 = 0 then some 0 else if x = 1 then some r.2.1 else some (nI (2 ^ hv_N h - 1) &&& (r.2.2.1 ^^^ (-1))) := by
      unfold f_X12_fits
      rw [f_ini, if_pos (by omega), pu_b1, if_neg (by decide), g19, sh_all hN, pu_lt, r1, pu_b1]
    by_cases x0 : x = 0
    · refine ⟨g.1 37 1, g, g, ?_, ?_, rfl, inv_wg hi g2⟩
      · rw [cl, if_pos x0]
      · rw [mo, if_pos x0, r2, e4]
    · by_cases hz : cn f (2 ^ hv_N h) = 0
      · refine ⟨0, g, g, ?_, ?_, rfl, inv_wg hi g2⟩
        · rw [cl, if_neg x0, if_pos hz, if_pos hz]
          by_cases x1 : x = 1
          · rw [if_pos x1]; rfl
          · rw [if_neg x1]; rfl
        · rw [mo, if_neg x0, r2, hz, if_pos (show nI 0 = 0 from rfl)]
      · have hr0 : ¬ r.1 = 0 := by rw [r2]; exact nI_ne0 (by omega) (by omega)
        by_cases x1 : x = 1
        · refine ⟨r.2.1, g, g, ?_, ?_, rfl, inv_wg hi g2⟩
          · rw [cl, if_neg x0, if_pos x1, if_neg hz, r3]
            congr 3
            apply set_ext
            intro p
            rw [sf_bit, sf_bit, decide_eq_true_iff, decide_eq_true_iff, cn_all (f := f) (g := fun i => i.testBit p)]
          · rw [mo, if_neg x0, if_neg hr0, if_pos x1]
        · refine ⟨nI (2 ^ hv_N h - 1) &&& (r.2.2.1 ^^^ (-1)), g, g, ?_, ?_, rfl, inv_wg hi g2⟩
          · rw [cl, if_neg x0, if_neg x1, if_neg hz, r4, nI_dif]
            congr 3
            apply set_ext
            intro p
            rw [dif_bit (by omega), Bool.and_eq_true, Bool.not_eq_true', Nat.testBit_two_pow_sub_one, sf_bit, decide_eq_true_iff, decide_eq_true_iff, cn_none (f := fun i => f i && i.testBit p)]
            constructor
            · rintro ⟨a1, a2⟩
              refine ⟨a1, ?_⟩
              cases hq : (sf (fun p => !decide (∀ i, i < 2 ^ hv_N h → (f i && i.testBit p) = false)) (hv_N h)).testBit p with
              | false => rfl
              | true =>
                rw [sf_bit, Bool.not_eq_true', decide_eq_false_iff_not] at hq
                exact absurd a2 hq.2
            · rintro ⟨a1, a2⟩
              refine ⟨a1, Classical.byContradiction fun hq => ?_⟩
              have : (sf (fun p => !decide (∀ i, i < 2 ^ hv_N h → (f i && i.testBit p) = false)) (hv_N h)).testBit p = true := by
                rw [sf_bit, Bool.not_eq_true', decide_eq_false_iff_not]
                exact ⟨a1, hq⟩
              rw [this] at a2
              cases a2
          · rw [mo, if_neg x0, if_neg hr0, if_neg x1]
  · refine ⟨-2, h, h, ?_, ?_, rfl, inv_up hi⟩
    · unfold f_X11_fits
      by_cases h0 : 0 ≤ x.toInt
      · rw [if_neg (nI_nlt0 h0), if_neg (by rw [i_le]; omega)]
      · rw [if_pos (nI_lt0 (by omega))]
    · unfold f_X12_fits
      rw [f_ini, if_neg (by omega), pu_b1, if_pos rfl]
/-- the point that parts most evenly -/
def bst (pt : Nat → Nat) : Nat → Nat × Nat
  | 0 => (0, pt 0)
  | p + 1 => if pt (p + 1) < (bst pt p).2 then (p + 1, pt (p + 1)) else bst pt p
theorem bst_le {pt : Nat → Nat} {m : Nat} : ∀ p, (∀ q, q ≤ p → pt q ≤ m) → (bst pt p).2 ≤ m ∧ (bst pt p).1 ≤ p
  | 0, h => ⟨h 0 (Nat.le_refl 0), Nat.le_refl 0⟩
  | p + 1, h => by
    have ih := bst_le (pt := pt) (m := m) p (fun q hq => h q (by omega))
    unfold bst
    split
    · exact ⟨h (p + 1) (Nat.le_refl _), Nat.le_refl _⟩
    · exact ⟨ih.1, by omega⟩
theorem s_even {g : PH} {N F : Nat} {w : Nat → Nat} (hN : N ≤ 8) (hN0 : 0 < N) (hF : F ≤ 256) (hw : ∀ p, p < 8 → w p ≤ F) (h1 : g.1 37 1 = nI F) (h41 : ∀ p, p < 8 → g.1 41 p = nI (w p)) : f_X4_mostEven (nI N) g = some (nI (bst (fun p => max (w p) (F - w p)) (N - 1)).1) := by
  have hpt : ∀ p, p < 8 → max (w p) (F - w p) ≤ 256 := fun p hp => by have := hw p hp; omega
  have step : ∀ i x3 x2, i < N → lb_X4_mostEven_13 (nI N) g x2 x3 (nI i) = if x3 ≤ nI (max (w i) (F - w i)) then some (.inl (x2, x3, nI (i + 1))) else some (.inl (nI i, nI (max (w i) (F - w i)), nI (i + 1))) := by
    intro i x3 x2 hi
    have hwi := hw i (by omega)
    unfold lb_X4_mostEven_13
    rw [if_neg (nI_ge hi (by omega)), pu_gn (show i < 8 by omega) (by decide), pu_gn (show i < 8 by omega) (by decide), nI_clamp (by omega), h41 i (by omega), h1, nI_sub hwi, pu_lt]
    have e : (if nI (w i) < nI (F - w i) then nI (F - w i) else nI (w i)) = nI (max (w i) (F - w i)) := by
      by_cases hq : w i < F - w i
      · rw [if_pos (nI_lt hq (by omega)), Nat.max_eq_right (by omega)]
      · rw [if_neg (nI_nlt (by omega) (by omega)), Nat.max_eq_left (by omega)]
    rw [e, pu_lt, pu_lt, ← nI_succ]
  have hL : ∃ r, lp_f (fun s => lb_X4_mostEven_13 (nI N) g s.1 s.2.1 s.2.2) fu_l ((-9), nI (F + 1), 0) = some r ∧ r.1 = nI (bst (fun p => max (w p) (F - w p)) (N - 1)).1 := by
    refine lp_0 (fun i s => s.2.2 = nI i ∧ ((i = 0 ∧ s.1 = -9 ∧ s.2.1 = nI (F + 1)) ∨ (0 < i ∧ s.1 = nI (bst (fun p => max (w p) (F - w p)) (i - 1)).1 ∧ s.2.1 = nI (bst (fun p => max (w p) (F - w p)) (i - 1)).2))) _ N (by omega) ?_ ?_ _ ⟨rfl, Or.inl ⟨rfl, rfl, rfl⟩⟩
    · rintro i ⟨x, y, z⟩ hi ⟨e0, e⟩
      left
      have e0 : z = nI i := e0
      subst e0
      rcases e with ⟨rfl, e1, e2⟩ | ⟨h0, e1, e2⟩
      · have e1 : x = -9 := e1
        have e2 : y = nI (F + 1) := e2
        subst e1 e2
        have hw0 := hw 0 (by omega)
        refine ⟨(nI 0, nI (max (w 0) (F - w 0)), nI 1), ?_, rfl, Or.inr ⟨by omega, rfl, rfl⟩⟩
        show lb_X4_mostEven_13 (nI N) g (-9) (nI (F + 1)) (nI 0) = _
        rw [step 0 _ _ hi, if_neg (nI_ge (show max (w 0) (F - w 0) < F + 1 by omega) (by omega))]
      · have e1 : x = _ := e1
        have e2 : y = _ := e2
        subst e1 e2
        obtain ⟨j, rfl⟩ : ∃ j, i = j + 1 := ⟨i - 1, by omega⟩
        rw [Nat.add_sub_cancel]
        have hb := bst_le (pt := fun p => max (w p) (F - w p)) (m := 256) j (fun q hq => hpt q (by omega))
        have hq1 := hpt (j + 1) (by omega)
        by_cases hq : max (w (j + 1)) (F - w (j + 1)) < (bst (fun p => max (w p) (F - w p)) j).2
        · refine ⟨(nI (j + 1), nI (max (w (j + 1)) (F - w (j + 1))), nI (j + 1 + 1)), ?_, rfl, Or.inr ⟨by omega, ?_, ?_⟩⟩
          · show lb_X4_mostEven_13 (nI N) g _ _ (nI (j + 1)) = _
            rw [step (j + 1) _ _ hi, if_neg (nI_ge hq (by omega))]
          · show nI (j + 1) = nI (bst _ (j + 1)).1
            rw [show bst (fun p => max (w p) (F - w p)) (j + 1) = (j + 1, max (w (j + 1)) (F - w (j + 1))) from if_pos hq]
          · show nI _ = nI (bst _ (j + 1)).2
            rw [show bst (fun p => max (w p) (F - w p)) (j + 1) = (j + 1, max (w (j + 1)) (F - w (j + 1))) from if_pos hq]
        · refine ⟨(nI (bst (fun p => max (w p) (F - w p)) j).1, nI (bst (fun p => max (w p) (F - w p)) j).2, nI (j + 1 + 1)), ?_, rfl, Or.inr ⟨by omega, ?_, ?_⟩⟩
          · show lb_X4_mostEven_13 (nI N) g _ _ (nI (j + 1)) = _
            rw [step (j + 1) _ _ hi, if_pos (nI_le (by omega) (by omega))]
          · show nI _ = nI (bst _ (j + 1)).1
            rw [show bst (fun p => max (w p) (F - w p)) (j + 1) = bst (fun p => max (w p) (F - w p)) j from if_neg hq]
          · show nI _ = nI (bst _ (j + 1)).2
            rw [show bst (fun p => max (w p) (F - w p)) (j + 1) = bst (fun p => max (w p) (F - w p)) j from if_neg hq]
    · rintro ⟨x, y, z⟩ ⟨e0, e⟩
      have e0 : z = nI N := e0
      subst e0
      refine ⟨(x, y, nI N), ?_, ?_⟩
      · show lb_X4_mostEven_13 (nI N) g x y (nI N) = _
        unfold lb_X4_mostEven_13
        rw [if_pos (nI_le (Nat.le_refl _) (by omega))]
      · rcases e with ⟨h0, _⟩ | ⟨_, e1, _⟩
        · omega
        · exact e1
  obtain ⟨r, r1, r2⟩ := hL
  unfold f_X4_mostEven
  rw [h1, ← nI_succ, pu_lt, r1, pu_b1, r2]
theorem m_with {h : PH} {N M p : Nat} {ld st sh : Nat → Nat} (x1 x2 x3 : Int32) (hp : p < N) (hN : N ≤ 8) (hM : M ≤ 12) (hld : ∀ p, p < N → ld p ≤ 20) (h19 : h.1 43 19 = nI N) (h55 : ∀ p, p < N → h.1 55 p = nI (ld p)) (h37 : h.1 43 37 = nI M) (h65 : ∀ k, k < M → h.1 65 k = nI (st k)) (h66 : ∀ k, k < M → h.1 66 k = nI (sh k) ∧ sh k ≤ 200) : ∃ r, lp_f (fun s => lb_X12_next_37 x1 x2 x3 (nI p) h s.1 s.2) fu_l (0, 0) = some r ∧ r.1 = nI (cn (fun i => fb ld N st sh M i && i.testBit p) (2 ^ N)) := by
  have h2 := p2_le hN
  generalize hf : fb ld N st sh M = f
  refine lp_0 (fun i s => s.1 = nI (cn (fun i => f i && i.testBit p) i) ∧ s.2 = nI i) _ (2 ^ N) (by omega) ?_ ?_ _ ⟨rfl, rfl⟩
  · rintro i ⟨x, y⟩ hi ⟨e1, e2⟩
    left
    have e1 : x = _ := e1
    have e2 : y = nI i := e2
    subst e1 e2
    have hd := m_fit (h := h) (mine := i) (ld := ld) (st := st) (sh := sh) hN hM hi hld h19 h55 h37 h65 h66
    rw [hf] at hd
    refine ⟨(nI (cn (fun i => f i && i.testBit p) (i + 1)), nI (i + 1)), ?_, rfl, rfl⟩
    show lb_X12_next_37 x1 x2 x3 (nI p) h (nI (cn (fun i => f i && i.testBit p) i)) (nI i) = _
    unfold lb_X12_next_37
    have hbd : i < 256 := by omega
    rw [h19, sh_one hN, if_neg (nI_ge hi (by omega)), m_has hbd (by omega), pu_b1, hd, pu_b1, show cn (fun i => f i && i.testBit p) (i + 1) = cn (fun i => f i && i.testBit p) i + if (f i && i.testBit p) = true then 1 else 0 from rfl]
    cases hb : i.testBit p with
    | false =>
      rw [Bool.and_false, if_neg (show ¬ false = true by decide), if_pos rfl, pu_lt, pu_lt, ← nI_succ, nI_a0]
      rfl
    | true =>
      rw [if_pos (show true = true from rfl), if_neg (show ¬ (1 : Int32) = 0 by decide)]
      cases hq : f i with
      | false =>
        rw [Bool.false_and, if_neg (show ¬ false = true by decide), if_pos rfl, pu_lt, pu_lt, ← nI_succ, nI_a0]
        rfl
      | true =>
        rw [Bool.true_and, if_pos (show true = true from rfl), if_neg (show ¬ (1 : Int32) = 0 by decide), pu_lt, pu_lt, ← nI_succ, ← nI_succ]
        rfl
  · rintro ⟨x, y⟩ ⟨e1, e2⟩
    have e2 : y = nI (2 ^ N) := e2
    subst e2
    refine ⟨(x, nI (2 ^ N)), ?_, e1⟩
    show lb_X12_next_37 x1 x2 x3 (nI p) h _ (nI (2 ^ N)) = _
    unfold lb_X12_next_37
    rw [h19, sh_one hN, if_pos (nI_le (Nat.le_refl _) (by omega))]
theorem o_next {n : Nat} {h : PH} (hi : Inv n h) : ∃ r h1 h2, f_X11_next h = some (r, h1) ∧ f_X12_next h1 = some r ∧ h2 = h1 ∧ Inv (n + 1) h2 := by
  have z0 : (0 : Int64).toInt = 0 := rfl
  have z2 : (2 : Int64).toInt = 2 := rfl
  have hP := hi.2.2.2.2.1
  have hR := hi.2.2.2.2.2.2.1
  obtain ⟨st, sh, hst, hsh⟩ := rd_all hi
  have hN := hP.1.2.1
  have hM := hR.1.2.1
  have h2 := p2_le hN
  obtain ⟨g, g1, g2⟩ := s_weigh (h := h) (ld := hv_l h) (st := st) (sh := sh) hN hM (fun p hp => (hP.2 p hp).2.1.2.2.1) hP.1.1 (fun p hp => (hP.2 p hp).2.1.1) hR.1.1 (fun k hk => (hst k hk).1) (fun k hk => ⟨(hsh k hk).1, (hsh k hk).2.2⟩)
  obtain ⟨e, e37, e2, e4, e5⟩ := id g2
  have g43 : g.1 43 = h.1 43 := e 43 (by decide) (by decide) (by decide)
  have g19 : g.1 43 19 = nI (hv_N h) := by rw [g43, hP.1.2.2]; exact hP.1.1
  have q55 : ∀ p, p < hv_N h → g.1 55 p = nI (hv_l h p) := fun p hp => by rw [e 55 (by decide) (by decide) (by decide), (hP.2 p hp).2.1.2.2.2]; exact (hP.2 p hp).2.1.1
  have q37 : g.1 43 37 = nI (hv_M h) := by rw [g43, hR.1.2.2]; exact hR.1.1
  have q65 : ∀ k, k < hv_M h → g.1 65 k = nI (st k) := fun k hk => by rw [e 65 (by decide) (by decide) (by decide)]; exact (hst k hk).2
  have q66 : ∀ k, k < hv_M h → g.1 66 k = nI (sh k) ∧ sh k ≤ 200 := fun k hk => by rw [e 66 (by decide) (by decide) (by decide)]; exact (hsh k hk).2
  obtain ⟨r, r1, r2, r3, r4⟩ := m_cnt (h := g) (ld := hv_l h) (st := st) (sh := sh) 0 (x1 := 0) hN hM (fun p hp => (hP.2 p hp).2.1.2.2.1) g19 q55 q37 q65 q66
  have mw := fun (x1 x2 x3 : Int32) (p : Nat) (hp : p < hv_N h) => m_with (h := g) (ld := hv_l h) (st := st) (sh := sh) x1 x2 x3 hp hN hM (fun p hp => (hP.2 p hp).2.1.2.2.1) g19 q55 q37 q65 q66
  generalize fb (hv_l h) (hv_N h) st sh (hv_M h) = f at *
  have hcn := cn_le f (2 ^ hv_N h)
  have g17 : g.1 17 0 = nI (hv_N h) := by rw [e 17 (by decide) (by decide) (by decide)]; exact hP.1.1
  have mf : f_X12_fits 0 g = some r.1 := by
    unfold f_X12_fits
    rw [show (0 : Int32).toInt64 = (nI 0).toInt64 from rfl, f_ini, nI_toInt (by decide), if_pos (by omega), pu_b1, if_neg (by decide), g19, sh_all hN, pu_lt, r1, pu_b1, if_pos rfl]
  generalize hF : cn f (2 ^ hv_N h) = F at *
  by_cases hq : 1 < F
  · have hN0 : 0 < hv_N h := by
      rcases Nat.eq_zero_or_pos (hv_N h) with q | q
      · rw [q] at hcn; omega
      · exact q
    have hw : ∀ p, p < 8 → cn (fun i => f i && i.testBit p) (2 ^ hv_N h) ≤ F := fun p _ => by rw [← hF]; exact cn_and f (fun i => i.testBit p) (2 ^ hv_N h)
    have se := s_even (w := fun p => cn (fun i => f i && i.testBit p) (2 ^ hv_N h)) hN hN0 (by omega) hw e4 e5
    generalize hww : (fun p => cn (fun i => f i && i.testBit p) (2 ^ hv_N h)) = w at *
    have hw' : ∀ p, p < 8 → w p ≤ F := fun p hp => by rw [← hww]; exact hw p hp
    have mw' : ∀ (x1 x2 x3 : Int32) (p : Nat), p < hv_N h → ∃ r, lp_f (fun s => lb_X12_next_37 x1 x2 x3 (nI p) g s.1 s.2) fu_l (0, 0) = some r ∧ r.1 = nI (w p) := fun x1 x2 x3 p hp => by rw [← hww]; exact mw x1 x2 x3 p hp
    refine ⟨nI (bst (fun p => max (w p) (F - w p)) (hv_N h - 1)).1, g, g, ?_, ?_, rfl, inv_wg hi g2⟩
    · unfold f_X11_next
      rw [g1, pu_b2, e4, if_pos (show (1 : Int32) < nI F from nI_lt (a := 1) hq (by omega)), g17, se, pu_b1, ← hww]
    · have hpt : ∀ p, p < 8 → max (w p) (F - w p) ≤ 256 := fun p hp => by have := hw' p hp; omega
      have step : ∀ i x2 x3, i < hv_N h → lb_X12_next_22 (nI F) g x2 x3 (nI i) = if x2 < 0 then some (.inl (nI i, nI (max (w i) (F - w i)), nI (i + 1))) else if x3 ≤ nI (max (w i) (F - w i)) then some (.inl (x2, x3, nI (i + 1))) else some (.inl (nI i, nI (max (w i) (F - w i)), nI (i + 1))) := by
        intro i x2 x3 hi
        have hwi := hw' i (by omega)
        obtain ⟨s, s1, s2⟩ := mw' (nI F) x2 x3 i hi
        unfold lb_X12_next_22
        rw [g19, if_neg (nI_ge hi (by omega)), s1, pu_b1, s2, nI_sub hwi]
        simp only [pu_lt, ← nI_succ]
        by_cases hq : w i ≤ F - w i
        · rw [if_pos (nI_le hq (by omega)), Nat.max_eq_right hq]
        · rw [if_neg (nI_ge (show F - w i < w i by omega) (by omega)), Nat.max_eq_left (show F - w i ≤ w i by omega)]
      have hL : ∃ r, lp_f (fun s => lb_X12_next_22 (nI F) g s.1 s.2.1 s.2.2) fu_l ((-9), 0, 0) = some r ∧ r.1 = nI (bst (fun p => max (w p) (F - w p)) (hv_N h - 1)).1 := by
        refine lp_0 (fun i s => s.2.2 = nI i ∧ ((i = 0 ∧ s.1 = -9) ∨ (0 < i ∧ s.1 = nI (bst (fun p => max (w p) (F - w p)) (i - 1)).1 ∧ s.2.1 = nI (bst (fun p => max (w p) (F - w p)) (i - 1)).2))) _ (hv_N h) (by omega) ?_ ?_ _ ⟨rfl, Or.inl ⟨rfl, rfl⟩⟩
        · rintro i ⟨x, y, z⟩ hi ⟨e0, e⟩
          left
          have e0 : z = nI i := e0
          subst e0
          rcases e with ⟨rfl, e1⟩ | ⟨h0, e1, e2⟩
          · have e1 : x = -9 := e1
            subst e1
            refine ⟨(nI 0, nI (max (w 0) (F - w 0)), nI 1), ?_, rfl, Or.inr ⟨by omega, rfl, rfl⟩⟩
            show lb_X12_next_22 (nI F) g (-9) y (nI 0) = _
            rw [step 0 _ _ hi, if_pos (by decide)]
          · have e1 : x = _ := e1
            have e2 : y = _ := e2
            subst e1 e2
            obtain ⟨j, rfl⟩ : ∃ j, i = j + 1 := ⟨i - 1, by omega⟩
            rw [Nat.add_sub_cancel]
            have hb := bst_le (pt := fun p => max (w p) (F - w p)) (m := 256) j (fun q hq => hpt q (by omega))
            have hq1 := hpt (j + 1) (by omega)
            by_cases hq : max (w (j + 1)) (F - w (j + 1)) < (bst (fun p => max (w p) (F - w p)) j).2
            · refine ⟨(nI (j + 1), nI (max (w (j + 1)) (F - w (j + 1))), nI (j + 1 + 1)), ?_, rfl, Or.inr ⟨by omega, ?_, ?_⟩⟩
              · show lb_X12_next_22 (nI F) g _ _ (nI (j + 1)) = _
                rw [step (j + 1) _ _ hi, if_neg (nI_pos (by omega)), if_neg (nI_ge hq (by omega))]
              · show nI (j + 1) = nI (bst _ (j + 1)).1
                rw [show bst (fun p => max (w p) (F - w p)) (j + 1) = (j + 1, max (w (j + 1)) (F - w (j + 1))) from if_pos hq]
              · show nI _ = nI (bst _ (j + 1)).2
                rw [show bst (fun p => max (w p) (F - w p)) (j + 1) = (j + 1, max (w (j + 1)) (F - w (j + 1))) from if_pos hq]
            · refine ⟨(nI (bst (fun p => max (w p) (F - w p)) j).1, nI (bst (fun p => max (w p) (F - w p)) j).2, nI (j + 1 + 1)), ?_, rfl, Or.inr ⟨by omega, ?_, ?_⟩⟩
              · show lb_X12_next_22 (nI F) g _ _ (nI (j + 1)) = _
                rw [step (j + 1) _ _ hi, if_neg (nI_pos (by omega)), if_pos (nI_le (by omega) (by omega))]
              · show nI _ = nI (bst _ (j + 1)).1
                rw [show bst (fun p => max (w p) (F - w p)) (j + 1) = bst (fun p => max (w p) (F - w p)) j from if_neg hq]
              · show nI _ = nI (bst _ (j + 1)).2
                rw [show bst (fun p => max (w p) (F - w p)) (j + 1) = bst (fun p => max (w p) (F - w p)) j from if_neg hq]
        · rintro ⟨x, y, z⟩ ⟨e0, e⟩
          have e0 : z = nI (hv_N h) := e0
          subst e0
          refine ⟨(x, y, nI (hv_N h)), ?_, ?_⟩
          · show lb_X12_next_22 (nI F) g x y (nI (hv_N h)) = _
            unfold lb_X12_next_22
            rw [g19, if_pos (nI_le (Nat.le_refl _) (by omega))]
          · rcases e with ⟨h0, _⟩ | ⟨_, e1, _⟩
            · omega
            · exact e1
      obtain ⟨s, s1, s2⟩ := hL
      unfold f_X12_next
      rw [mf, pu_b1, r2, if_pos (show (2 : Int32) ≤ nI F from nI_le (a := 2) hq (by omega)), s1, pu_b1, s2]
  · refine ⟨-9, g, g, ?_, ?_, rfl, inv_wg hi g2⟩
    · unfold f_X11_next
      rw [g1, pu_b2, e4, if_neg (show ¬ (1 : Int32) < nI F from nI_nlt (a := 1) (by omega) (by decide))]
    · unfold f_X12_next
      rw [mf, pu_b1, r2, if_neg (show ¬ (2 : Int32) ≤ nI F from nI_ge (b := 2) (by omega) (by decide))]
