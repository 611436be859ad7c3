/-! PLANS: the reference goes through all rows -/
def mR (h : PH) (N : Nat) (ld rm : Nat → Nat) : Prop := ∀ p, p < N → h.1 55 p = nI (ld p) ∧ ld p ≤ 20 ∧ h.1 56 p = nI (rm p) ∧ rm p ≤ 5
theorem mR_fr {h g : PH} {N : Nat} {ld rm : Nat → Nat} (hq : mR h N ld rm) (e55 : g.1 55 = h.1 55) (e56 : g.1 56 = h.1 56) : mR g N ld rm := by
  unfold mR
  rw [e55, e56]
  exact hq
theorem nI_rem {a w : Nat} (ha : a < 2 ^ 31) (hw : w < 2 ^ 31) : nI a - nI a / nI w * nI w = nI (a % w) := by
  rw [nI_div ha hw, nI_mul, nI_sub (Nat.div_mul_le_self a w)]
  congr 1
  have := Nat.div_add_mod' a w
  omega
theorem m_tkr {h : PH} {N w r : Nat} (hN : N ≤ 8) (h19 : h.1 43 19 = nI N) (hw1 : 1 ≤ w) (hw : w ≤ 3) (hr : r < 2 ^ 31) : ∃ g, f_X12_takeRow (nI r) (nI w) h = some ((), g) ∧ (∀ a, a ≠ 64 → g.1 a = h.1 a) ∧ g.2 = h.2 ∧ ∀ x, x < 3 → g.1 64 x = nI (gr w N r x) := by
  have hA : ∃ t, lp_f (fun s => lb_X12_takeRow_2 (nI r) (nI w) s.1 s.2) fu_l (0, h) = some t ∧ ((∀ a, a ≠ 64 → t.2.1 a = h.1 a) ∧ t.2.2 = h.2 ∧ ∀ x, x < 3 → t.2.1 64 x = nI 0) := by
    refine lp_0 (fun i t => t.1 = nI i ∧ (∀ a, a ≠ 64 → t.2.1 a = h.1 a) ∧ t.2.2 = h.2 ∧ ∀ x, x < i → t.2.1 64 x = nI 0) _ 3 (by omega) ?_ ?_ _ ⟨rfl, fun _ _ => rfl, rfl, fun x hx => by omega⟩
    · rintro i ⟨y, k⟩ hi ⟨e0, e1, e2, e3⟩
      left
      obtain rfl : y = nI i := e0
      refine ⟨(nI (i + 1), ph_i k 64 i 0), ?_, rfl, ?_, e2, ?_⟩
      · show lb_X12_takeRow_2 (nI r) (nI w) (nI i) k = _
        unfold lb_X12_takeRow_2
        rw [if_neg (show ¬ (3 : Int32) ≤ nI i from nI_ge (b := 3) hi (by decide)), pu_gn hi (by decide), nI_clamp (by omega), pu_lt, pu_lt, ← nI_succ]
      · intro a ha
        show (ph_i k 64 i 0).1 a = _
        rw [pr_ne ha]
        exact e1 a ha
      · intro x hx
        show (ph_i k 64 i 0).1 64 x = _
        rw [pr_eq]
        by_cases hxi : x = i
        · rw [if_pos hxi]; rfl
        · rw [if_neg hxi]; exact e3 x (by omega)
    · rintro ⟨y, k⟩ ⟨e0, e1, e2, e3⟩
      obtain rfl : y = nI 3 := e0
      refine ⟨(nI 3, k), ?_, e1, e2, e3⟩
      show lb_X12_takeRow_2 (nI r) (nI w) (nI 3) k = _
      unfold lb_X12_takeRow_2
      rw [if_pos (by decide)]
  obtain ⟨t, t1, t2, t3, t4⟩ := hA
  have hdiv : ∀ i, r / w ^ i ≤ r := fun i => Nat.div_le_self r _
  have hwz : ¬ nI w = 0 := nI_ne0 (by omega) (by omega)
  have pset : ∀ i x, sf (fun p => decide (N - i ≤ p ∧ dg w N r p = x)) N < 256 := fun i x => by
    have := sf_lt (fun p => decide (N - i ≤ p ∧ dg w N r p = x)) N
    have := p2_le hN
    omega
  have hB : ∃ s, lp_f (fun s => lb_X12_takeRow_30 (nI w) s.1 s.2.1 s.2.2) fu_l (nI r, nI N - 1, t.2) = some s ∧ ((∀ a, a ≠ 64 → s.2.2.1 a = h.1 a) ∧ s.2.2.2 = h.2 ∧ ∀ x, x < 3 → s.2.2.1 64 x = nI (gr w N r x)) := by
    refine lp_0 (fun i s => s.1 = nI (r / w ^ i) ∧ s.2.1 = nI (N - i) - 1 ∧ (∀ a, a ≠ 64 → s.2.2.1 a = h.1 a) ∧ s.2.2.2 = h.2 ∧ ∀ x, x < 3 → s.2.2.1 64 x = nI (sf (fun p => decide (N - i ≤ p ∧ dg w N r p = x)) N)) _ N (by omega) ?_ ?_ _ ⟨by show nI r = _; rw [Nat.pow_zero, Nat.div_one], rfl, t2, t3, ?_⟩
    · rintro i ⟨y, z, k⟩ hi ⟨e0, e1, e2, e3, e4⟩
      left
      obtain ⟨j, hj⟩ : ∃ j, N - i = j + 1 := ⟨N - i - 1, by omega⟩
      obtain rfl : y = nI (r / w ^ i) := e0
      obtain rfl : z = nI j := by rw [← nI_pred, ← hj]; exact e1
      have e4 : ∀ x, x < 3 → k.1 64 x = nI (sf (fun p => decide (N - i ≤ p ∧ dg w N r p = x)) N) := e4
      have hdi := hdiv i
      have hdig : r / w ^ i % w = dg w N r j := by
        unfold dg
        rw [show N - 1 - j = i by omega]
      have hd3 : dg w N r j < 3 := by have := dg_lt (show 0 < w by omega) N r j; omega
      have new : ∀ x, (if x = dg w N r j then sf (fun p => decide (N - i ≤ p ∧ dg w N r p = x)) N ||| 2 ^ j else sf (fun p => decide (N - i ≤ p ∧ dg w N r p = x)) N) = sf (fun p => decide (N - (i + 1) ≤ p ∧ dg w N r p = x)) N := by
        intro x
        apply set_ext
        intro p
        rw [sf_bit, decide_eq_true_iff]
        by_cases hx : x = dg w N r j
        · rw [if_pos hx, add_bit, sf_bit, decide_eq_true_iff]
          constructor
          · rintro (⟨a1, a2, a3⟩ | rfl)
            · exact ⟨a1, by omega, a3⟩
            · exact ⟨by omega, by omega, hx.symm⟩
          · rintro ⟨a1, a2, a3⟩
            by_cases hpj : p = j
            · exact Or.inr hpj
            · exact Or.inl ⟨a1, by omega, a3⟩
        · rw [if_neg hx, sf_bit, decide_eq_true_iff]
          constructor
          · rintro ⟨a1, a2, a3⟩
            exact ⟨a1, by omega, a3⟩
          · rintro ⟨a1, a2, a3⟩
            by_cases hpj : p = j
            · subst hpj; exact absurd a3.symm hx
            · exact ⟨a1, by omega, a3⟩
      refine ⟨(nI (r / w ^ (i + 1)), nI j - 1, ph_i k 64 (dg w N r j) (nI (sf (fun p => decide (N - i ≤ p ∧ dg w N r p = dg w N r j)) N ||| 2 ^ j))), ?_, rfl, ?_, ?_, e3, ?_⟩
      · show lb_X12_takeRow_30 (nI w) (nI (r / w ^ i)) (nI j) k = _
        unfold lb_X12_takeRow_30
        rw [if_neg (nI_pos (by omega)), pu_gz hwz, nI_rem (by omega) (by omega), hdig, pu_gn hd3 (by decide), pu_gn hd3 (by decide), nI_clamp (by omega), e4 _ hd3, bt_o (pset i _) (by omega), pu_lt, pu_gz hwz, nI_div (by omega) (by omega), Nat.div_div_eq_div_mul, ← Nat.pow_succ, pu_lt, pu_lt, Int32.sub_eq_add_neg]
      · show nI j - 1 = nI (N - (i + 1)) - 1
        rw [show N - (i + 1) = j by omega]
      · intro a ha
        show (ph_i k 64 _ _).1 a = _
        rw [pr_ne ha]
        exact e2 a ha
      · intro x hx
        show (ph_i k 64 _ _).1 64 x = _
        rw [pr_eq, ← new x]
        by_cases hxd : x = dg w N r j
        · rw [if_pos hxd, if_pos hxd, ← hxd]
        · rw [if_neg hxd, if_neg hxd]
          exact e4 x hx
    · rintro ⟨y, z, k⟩ ⟨e0, e1, e2, e3, e4⟩
      obtain rfl : z = nI (N - N) - 1 := e1
      refine ⟨(y, nI (N - N) - 1, k), ?_, e2, e3, fun x hx => ?_⟩
      · show lb_X12_takeRow_30 (nI w) y (nI (N - N) - 1) k = _
        rw [Nat.sub_self]
        unfold lb_X12_takeRow_30
        rw [if_pos (by decide)]
      · have e4 : k.1 64 x = nI (sf (fun p => decide (N - N ≤ p ∧ dg w N r p = x)) N) := e4 x hx
        show k.1 64 x = _
        rw [e4]
        congr 1
        apply set_ext
        intro p
        rw [sf_bit, gr_bit, decide_eq_true_iff]
        constructor
        · rintro ⟨a1, a2, a3⟩; exact ⟨a1, a3⟩
        · rintro ⟨a1, a3⟩; exact ⟨a1, by omega, a3⟩
    · intro x hx
      show t.2.1 64 x = _
      rw [t4 x hx]
      congr 1
      symm
      apply set_0
      intro p
      cases hq : (sf (fun p => decide (N - 0 ≤ p ∧ dg w N r p = x)) N).testBit p with
      | false => rfl
      | true =>
        rw [sf_bit, decide_eq_true_iff] at hq
        omega
  obtain ⟨s, s1, s2⟩ := hB
  refine ⟨s.2.2, ?_, s2⟩
  unfold f_X12_takeRow
  rw [t1, pu_b1, t2 43 (by decide), h19, pu_lt, s1, pu_b1]
theorem two_pc {s : Nat} (hs : s < 256) : (nI s &&& (nI s - 1) = 0) ↔ pc s < 2 := by
  have : ∀ s : Fin 256, (nI s.1 &&& (nI s.1 - 1) = 0) ↔ pc s.1 < 2 := by decide +kernel
  exact this ⟨s, hs⟩
theorem m_dark {h : PH} {N w r : Nat} {ld rm : Nat → Nat} (hN : N ≤ 8) (h19 : h.1 43 19 = nI N) (hR : mR h N ld rm) (h64 : ∀ x, x < 3 → h.1 64 x = nI (gr w N r x)) : f_X12_isDark h = some (if lit w N rm r then 0 else 1) := by
  have h2 := p2_le hN
  have hrs : ∀ o, rs N rm o < 256 := fun o => by have := rs_lt N rm o; omega
  have hgr : ∀ x, gr w N r x < 256 := fun x => by have := gr_lt w N r x; omega
  have gath : ∀ (o : Nat) (x1 : Int32), o < 6 → lp_f (fun s => lb_X12_isDark_15 x1 (nI o) h s.1 s.2) fu_l (0, 0) = some (nI (rs N rm o), nI N) := by
    intro o x1 ho
    refine lp_cnt (fun i => (nI (sf (fun p => decide (rm p = o)) i), nI i)) N _ (fun i hi => ?_) ?_ fu_l 0 (by omega) (by unfold fu_l; omega)
    · show lb_X12_isDark_15 x1 (nI o) h (nI (sf (fun p => decide (rm p = o)) i)) (nI i) = _
      have hsl := sf_lt (fun p => decide (rm p = o)) i
      have h2i := p2_le (show i ≤ 8 by omega)
      have hri := hR i hi
      unfold lb_X12_isDark_15
      rw [h19, if_neg (nI_ge hi (by omega)), pu_gn (show i < 8 by omega) (by decide), nI_clamp (by omega), hri.2.2.1]
      by_cases hq : rm i = o
      · rw [if_pos (by rw [hq]), bt_o (by omega) (by omega), pu_lt, pu_lt, ← nI_succ, show sf (fun p => decide (rm p = o)) (i + 1) = sf (fun p => decide (rm p = o)) i ||| 2 ^ i from if_pos (by simp [hq])]
      · rw [if_neg (fun z => hq (nI_inj z (by omega) (by omega))), pu_lt, pu_lt, ← nI_succ, show sf (fun p => decide (rm p = o)) (i + 1) = sf (fun p => decide (rm p = o)) i from if_neg (by simp [hq])]
        show some (Sum.inl (nI _ ||| nI 0, _)) = _
        rw [nI_or, Nat.or_zero]
    · show lb_X12_isDark_15 x1 (nI o) h _ (nI N) = _
      unfold lb_X12_isDark_15
      rw [h19, if_pos (nI_le (Nat.le_refl _) (by omega))]
      rfl
  have lit_f : ∀ o x, o < 6 → x < 3 → 2 ≤ pc (rs N rm o) → dif (rs N rm o) (gr w N r x) = 0 → lit w N rm r = false := by
    intro o x ho hx h3 h4
    cases hl : lit w N rm r with
    | false => rfl
    | true => exact absurd h4 (lit_t.mp hl o ho x hx h3)
  have inner : ∀ (o : Nat) (x1 tw : Int32), o < 6 → (tw = if 2 ≤ pc (rs N rm o) then 1 else 0) → (x1 = 0 ∨ (x1 = 1 ∧ lit w N rm r = false)) → ∃ s, lp_f (fun s => lb_X12_isDark_70 (nI o) (nI (rs N rm o)) tw h s.1 s.2) fu_l (x1, 0) = some s ∧ ((s.1 = 0 ∧ x1 = 0 ∧ ∀ x, x < 3 → 2 ≤ pc (rs N rm o) → dif (rs N rm o) (gr w N r x) ≠ 0) ∨ (s.1 = 1 ∧ lit w N rm r = false)) := by
    intro o x1 tw ho htw hx1
    refine lp_0 (fun i s => s.2 = nI i ∧ ((s.1 = 0 ∧ x1 = 0 ∧ ∀ x, x < i → 2 ≤ pc (rs N rm o) → dif (rs N rm o) (gr w N r x) ≠ 0) ∨ (s.1 = 1 ∧ lit w N rm r = false))) _ 3 (by omega) ?_ ?_ _ ⟨rfl, hx1.elim (fun q => Or.inl ⟨q, q, fun x hx => by omega⟩) (fun q => Or.inr q)⟩
    · rintro i ⟨y, z⟩ hi ⟨e0, e⟩
      left
      obtain rfl : z = nI i := e0
      have h3 : ¬ (3 : Int32) ≤ nI i := nI_ge (b := 3) hi (by decide)
      rcases e with ⟨e1, e2, e3⟩ | ⟨e1, e2⟩
      · obtain rfl : y = 0 := e1
        have hdl := dif_le (rs N rm o) (gr w N r i)
        have hro := hrs o
        by_cases h4 : 2 ≤ pc (rs N rm o)
        · rw [if_pos h4] at htw
          by_cases h5 : dif (rs N rm o) (gr w N r i) = 0
          · refine ⟨(1, nI (i + 1)), ?_, rfl, Or.inr ⟨rfl, lit_f o i ho hi h4 h5⟩⟩
            show lb_X12_isDark_70 (nI o) (nI (rs N rm o)) tw h 0 (nI i) = _
            unfold lb_X12_isDark_70
            rw [if_neg h3, if_pos rfl, htw, if_neg (show ¬ (1 : Int32) = 0 by decide), pu_gn hi (by decide), nI_clamp (by omega), h64 i hi, nI_dif, h5, if_pos (show nI 0 = 0 from rfl), pu_lt, ← nI_succ]
          · refine ⟨(0, nI (i + 1)), ?_, rfl, Or.inl ⟨rfl, e2, fun x hx h6 => ?_⟩⟩
            · show lb_X12_isDark_70 (nI o) (nI (rs N rm o)) tw h 0 (nI i) = _
              unfold lb_X12_isDark_70
              rw [if_neg h3, if_pos rfl, htw, if_neg (show ¬ (1 : Int32) = 0 by decide), pu_gn hi (by decide), nI_clamp (by omega), h64 i hi, nI_dif, if_neg (nI_ne0 (by omega) (by omega)), pu_lt, ← nI_succ]
            · by_cases hxi : x = i
              · subst hxi; exact h5
              · exact e3 x (by omega) h6
        · rw [if_neg h4] at htw
          refine ⟨(0, nI (i + 1)), ?_, rfl, Or.inl ⟨rfl, e2, fun x hx h6 => absurd h6 h4⟩⟩
          show lb_X12_isDark_70 (nI o) (nI (rs N rm o)) tw h 0 (nI i) = _
          unfold lb_X12_isDark_70
          rw [if_neg h3, if_pos rfl, htw, if_pos rfl, pu_lt, ← nI_succ]
      · obtain rfl : y = 1 := e1
        refine ⟨(1, nI (i + 1)), ?_, rfl, Or.inr ⟨rfl, e2⟩⟩
        show lb_X12_isDark_70 (nI o) (nI (rs N rm o)) tw h 1 (nI i) = _
        unfold lb_X12_isDark_70
        rw [if_neg h3, if_neg (show ¬ (1 : Int32) = 0 by decide), pu_lt, ← nI_succ]
    · rintro ⟨y, z⟩ ⟨e0, e⟩
      obtain rfl : z = nI 3 := e0
      refine ⟨(y, nI 3), ?_, e⟩
      show lb_X12_isDark_70 (nI o) (nI (rs N rm o)) tw h y (nI 3) = _
      unfold lb_X12_isDark_70
      rw [if_pos (by decide)]
  have hL : ∃ s, lp_f (fun s => lb_X12_isDark_4 h s.1 s.2) fu_l (0, 0) = some s ∧ s.1 = if lit w N rm r then 0 else 1 := by
    refine lp_0 (fun i s => s.2 = nI i ∧ ((s.1 = 0 ∧ ∀ o, o < i → ∀ x, x < 3 → 2 ≤ pc (rs N rm o) → dif (rs N rm o) (gr w N r x) ≠ 0) ∨ (s.1 = 1 ∧ lit w N rm r = false))) _ 6 (by omega) ?_ ?_ _ ⟨rfl, Or.inl ⟨rfl, fun o ho => by omega⟩⟩
    · rintro i ⟨y, z⟩ hi ⟨e0, e⟩
      left
      obtain rfl : z = nI i := e0
      have hx1 : y = 0 ∨ (y = 1 ∧ lit w N rm r = false) := e.elim (fun q => Or.inl q.1) (fun q => Or.inr q)
      obtain ⟨s, s1, s2⟩ := inner i y (if 2 ≤ pc (rs N rm i) then 1 else 0) hi rfl hx1
      refine ⟨(s.1, nI (i + 1)), ?_, rfl, ?_⟩
      · show lb_X12_isDark_4 h y (nI i) = _
        unfold lb_X12_isDark_4
        rw [if_neg (show ¬ (6 : Int32) ≤ nI i from nI_ge (b := 6) hi (by decide)), gath i y hi, pu_b1]
        have tp := two_pc (hrs i)
        by_cases h4 : 2 ≤ pc (rs N rm i)
        · rw [if_pos h4] at s1
          rw [if_neg (fun q => by have := tp.mp q; omega), s1, pu_b1, pu_lt, ← nI_succ]
        · rw [if_neg h4] at s1
          rw [if_pos (tp.mpr (by omega)), s1, pu_b1, pu_lt, ← nI_succ]
      · rcases s2 with ⟨a1, a2, a3⟩ | a
        · left
          refine ⟨a1, fun o ho => ?_⟩
          by_cases hoi : o = i
          · subst hoi; exact a3
          · rcases e with ⟨_, e3⟩ | ⟨e1, _⟩
            · exact e3 o (by omega)
            · have e1 : y = 1 := e1
              rw [a2] at e1
              exact absurd e1 (by decide)
        · exact Or.inr a
    · rintro ⟨y, z⟩ ⟨e0, e⟩
      obtain rfl : z = nI 6 := e0
      refine ⟨(y, nI 6), ?_, ?_⟩
      · show lb_X12_isDark_4 h y (nI 6) = _
        unfold lb_X12_isDark_4
        rw [if_pos (by decide)]
      · rcases e with ⟨e1, e2⟩ | ⟨e1, e2⟩
        · rw [lit_t.mpr e2]
          exact e1
        · rw [e2]
          exact e1
  obtain ⟨s, s1, s2⟩ := hL
  unfold f_X12_isDark
  rw [s1, pu_b1, s2]
  cases lit w N rm r <;> rfl
theorem m_tog {h : PH} {N w r f : Nat} {ld rm yv : Nat → Nat} (hN : N ≤ 8) (h19 : h.1 43 19 = nI N) (hR : mR h N ld rm) (hf : f ≤ 99) (h64 : ∀ x, x < 3 → h.1 64 x = nI (gr w N r x)) (y0 : yv 0 = 0) (h63 : ∀ s, s < 2 ^ N → h.1 63 (9 * s + 8) = nI (cv (yv s))) : f_X12_cableTogether (nI f) h = some (nI (if okL w N ld f r then cv (yv (gr w N r 0)) + cv (yv (gr w N r 1)) + cv (yv (gr w N r 2)) else 10000000)) := by
  have h2 := p2_le hN
  have hgr : ∀ x, gr w N r x < 256 := fun x => by have := gr_lt w N r x; omega
  have hld : ∀ p, p < N → ld p ≤ 20 := fun p hp => (hR p hp).2.1
  have ok_f : ∀ x, x < 3 → ¬ sl ld (gr w N r x) N ≤ f → okL w N ld f r = false := by
    intro x hx h3
    cases hl : okL w N ld f r with
    | false => rfl
    | true => exact absurd (okL_t.mp hl x hx) h3
  have hL : ∃ s, lp_f (fun s => lb_X12_cableTogether_4 (nI f) h s.1 s.2) fu_l (0, 0) = some s ∧ ((okL w N ld f r = false ∧ s = .inl 10000000) ∨ (okL w N ld f r = true ∧ ∃ z, s = .inr (nI (su (fun x => cv (yv (gr w N r x))) 3), z))) := by
    refine lp_0 (fun i s => s = (nI (su (fun x => cv (yv (gr w N r x))) i), nI i) ∧ ∀ x, x < i → sl ld (gr w N r x) N ≤ f) _ 3 (by omega) ?_ ?_ _ ⟨rfl, fun x hx => by omega⟩
    · rintro i s hi ⟨rfl, e⟩
      have hsl := sl_le (ld := ld) (s := gr w N r i) (m := 20) N hld
      have hgi := hgr i
      have body : lb_X12_cableTogether_4 (nI f) h (nI (su (fun x => cv (yv (gr w N r x))) i)) (nI i) = if nI (sl ld (gr w N r i) N) ≤ nI f then some (.inl (nI (su (fun x => cv (yv (gr w N r x))) (i + 1)), nI (i + 1))) else some (.inr (.inl 10000000)) := by
        unfold lb_X12_cableTogether_4
        rw [if_neg (show ¬ (3 : Int32) ≤ nI i from nI_ge (b := 3) hi (by decide)), pu_gn hi (by decide), nI_clamp (by omega), h64 i hi]
        by_cases hz : gr w N r i = 0
        · rw [hz, if_pos (show nI 0 = 0 from rfl), nI_a0, pu_lt, pu_gn hi (by decide), m_loads hN (by omega) hld h19 (fun p hp => (hR p hp).1), pu_b1, pu_lt, ← nI_succ, show su (fun x => cv (yv (gr w N r x))) (i + 1) = su (fun x => cv (yv (gr w N r x))) i + cv (yv (gr w N r i)) from rfl, hz, y0]
          rfl
        · have e9 : 9 * nI (gr w N r i) + 8 = nI (9 * gr w N r i + 8) := by
            show nI 9 * nI (gr w N r i) + nI 8 = _
            rw [nI_mul, nI_add]
          rw [if_neg (nI_ne0 (by omega) (by omega)), pu_gn hi (by decide), e9, pu_gn (show 9 * gr w N r i + 8 < 2304 by omega) (by decide), nI_clamp (by omega), h63 _ (gr_lt w N r i), nI_add, pu_lt, pu_gn hi (by decide), m_loads hN hgi hld h19 (fun p hp => (hR p hp).1), pu_b1, pu_lt, ← nI_succ]
          rfl
      by_cases hq : sl ld (gr w N r i) N ≤ f
      · left
        refine ⟨_, by show lb_X12_cableTogether_4 (nI f) h (nI (su (fun x => cv (yv (gr w N r x))) i)) (nI i) = _; rw [body, if_pos (nI_le hq (by omega))], rfl, fun x hx => ?_⟩
        by_cases hxi : x = i
        · subst hxi; exact hq
        · exact e x (by omega)
      · right
        exact ⟨.inl 10000000, by show lb_X12_cableTogether_4 (nI f) h (nI (su (fun x => cv (yv (gr w N r x))) i)) (nI i) = _; rw [body, if_neg (nI_ge (by omega) (by omega))], Or.inl ⟨ok_f i hi hq, rfl⟩⟩
    · rintro s ⟨rfl, e⟩
      refine ⟨.inr (nI (su (fun x => cv (yv (gr w N r x))) 3), nI 3), ?_, Or.inr ⟨okL_t.mpr e, _, rfl⟩⟩
      show lb_X12_cableTogether_4 (nI f) h _ (nI 3) = _
      unfold lb_X12_cableTogether_4
      rw [if_pos (by decide)]
  obtain ⟨s, s1, s2⟩ := hL
  unfold f_X12_cableTogether
  rw [s1, pu_b1]
  rcases s2 with ⟨q, rfl⟩ | ⟨q, z, rfl⟩
  · rw [q]
    rfl
  · rw [q, if_pos rfl]
    show some (nI (0 + cv (yv (gr w N r 0)) + cv (yv (gr w N r 1)) + cv (yv (gr w N r 2)))) = _
    rw [Nat.zero_add]
/-- what the reference holds of the best plan -/
def pM (h : PH) (c : Nat → Nat) (m : Nat) : Prop := h.1 43 34 = nI (cv (bs c m).1) ∧ h.1 43 33 = if (bs c m).1 < 1000000 then nI (bs c m).2 else -9
theorem w_pow {w N : Nat} (hw : w ≤ 3) (hN : N ≤ 8) : w ^ N ≤ 6561 := by
  have h1 : w ^ N ≤ 3 ^ N := Nat.pow_le_pow_left hw N
  have h2 : 3 ^ N ≤ 3 ^ 8 := Nat.pow_le_pow_right (by decide) hN
  omega
theorem m_layP {h : PH} {P N B w f : Nat} {D : Nat → Nat → Nat} {pl ld rm : Nat → Nat} (hq : mQ h P N B D pl) (hR : mR h N ld rm) (hw1 : 1 ≤ w) (hw : w ≤ 3) (hf : f ≤ 99) {dv : Int32} {dk : Bool} (hdk : dk = !decide (dv = 0)) : ∃ g, f_X12_layPlan (nI w) (nI f) dv h = some ((), g) ∧ (∀ a, a ≠ 43 → a ≠ 63 → a ≠ 64 → g.1 a = h.1 a) ∧ (∀ j, j ≠ 33 → j ≠ 34 → g.1 43 j = h.1 43 j) ∧ g.2 = h.2 ∧ pM g (cP w N f dk ld rm (yv D B pl)) (w ^ N) := by
  have hN := hq.2.1
  have h2 := p2_le hN
  have hpl : ∀ p, p < N → pl p < P := fun p hp => (hq.2.2.2.1 p hp).2
  have hD : ∀ a b, a < P → b < P → D a b < 100000 ∨ D a b = 1000000 := fun a b ha hb => (hq.1.2 a b ha hb).2
  have hB := hq.2.2.2.2.2
  have hwp := w_pow hw hN
  obtain ⟨k, k1, k2, k3, k4⟩ := m_needs (kd := 0) hq (by omega)
  have k1 : f_X12_layNeeds 0 h = some ((), k) := k1
  generalize hh : ph_i (ph_i k 43 33 (-9)) 43 34 10000000 = h4
  have c1 : ∀ a, a ≠ 43 → h4.1 a = k.1 a := fun a ha => by rw [← hh, pr_ne ha, pr_ne ha]
  have c2 : ∀ j, j ≠ 33 → j ≠ 34 → h4.1 43 j = k.1 43 j := fun j j1 j2 => by rw [← hh, pr_eq, if_neg j2, pr_eq, if_neg j1]
  have c3 : h4.2 = k.2 := by rw [← hh]; rfl
  have h419 : h4.1 43 19 = nI N := by rw [c2 19 (by decide) (by decide), k2 43 (by decide)]; exact hq.2.2.1
  have rows : lp_f (fun s => lb_X12_layPlan_23 (nI w) (nI f) dv h4 s.1 s.2) fu_l (1, 0) = some (nI (w ^ N), nI N) := by
    refine lp_cnt (fun i => (nI (w ^ i), nI i)) N _ (fun i hi => ?_) ?_ fu_l 0 (by omega) (by unfold fu_l; omega)
    · show lb_X12_layPlan_23 (nI w) (nI f) dv h4 (nI (w ^ i)) (nI i) = _
      unfold lb_X12_layPlan_23
      rw [h419, if_neg (nI_ge hi (by omega)), nI_mul, ← Nat.pow_succ, pu_lt, pu_lt, ← nI_succ]
    · show lb_X12_layPlan_23 (nI w) (nI f) dv h4 (nI (w ^ N)) (nI N) = _
      unfold lb_X12_layPlan_23
      rw [h419, if_pos (nI_le (Nat.le_refl _) (by omega))]
  have hL : ∃ s, lp_f (fun s => lb_X12_layPlan_47 (nI w) (nI f) dv (nI (w ^ N)) s.1 s.2) fu_l (0, h4) = some s ∧ ((∀ a, a ≠ 43 → a ≠ 64 → s.2.1 a = k.1 a) ∧ (∀ j, j ≠ 33 → j ≠ 34 → s.2.1 43 j = k.1 43 j) ∧ s.2.2 = k.2 ∧ pM s.2 (cP w N f dk ld rm (yv D B pl)) (w ^ N)) := by
    refine lp_0 (fun i s => s.1 = nI i ∧ (∀ a, a ≠ 43 → a ≠ 64 → s.2.1 a = k.1 a) ∧ (∀ j, j ≠ 33 → j ≠ 34 → s.2.1 43 j = k.1 43 j) ∧ s.2.2 = k.2 ∧ pM s.2 (cP w N f dk ld rm (yv D B pl)) i) _ (w ^ N) (by omega) ?_ ?_ _ ⟨rfl, fun a a1 _ => c1 a a1, c2, c3, ?_, ?_⟩
    · rintro i ⟨x, g⟩ hi ⟨e0, e1, e2, e3, e4, e5⟩
      left
      obtain rfl : x = nI i := e0
      have e1 : ∀ a, a ≠ 43 → a ≠ 64 → g.1 a = k.1 a := e1
      have e2 : ∀ j, j ≠ 33 → j ≠ 34 → g.1 43 j = k.1 43 j := e2
      have e4 : g.1 43 34 = nI (cv (bs (cP w N f dk ld rm (yv D B pl)) i).1) := e4
      have e5 : g.1 43 33 = if (bs (cP w N f dk ld rm (yv D B pl)) i).1 < 1000000 then nI (bs (cP w N f dk ld rm (yv D B pl)) i).2 else -9 := e5
      have g19 : g.1 43 19 = nI N := by rw [e2 19 (by decide) (by decide), k2 43 (by decide)]; exact hq.2.2.1
      obtain ⟨t, t1, t2, t3, t4⟩ := m_tkr (h := g) (N := N) (w := w) (r := i) hN g19 hw1 hw (by omega)
      have tR : mR t N ld rm := mR_fr hR (by rw [t2 55 (by decide), e1 55 (by decide) (by decide), k2 55 (by decide)]) (by rw [t2 56 (by decide), e1 56 (by decide) (by decide), k2 56 (by decide)])
      have t19 : t.1 43 19 = nI N := by rw [t2 43 (by decide)]; exact g19
      have tog := m_tog (f := f) (yv := yv D B pl) hN t19 tR hf t4 (yv_0 D B pl) (fun s hs => by rw [t2 63 (by decide), e1 63 (by decide) (by decide)]; exact k4 s 8 hs (Or.inr rfl))
      have drk := m_dark hN t19 tR t4
      have hb := bs_le (cP w N f dk ld rm (yv D B pl)) i
      have hcv := @cv_le (bs (cP w N f dk ld rm (yv D B pl)) i).1
      have t34 : t.1 43 34 = nI (cv (bs (cP w N f dk ld rm (yv D B pl)) i).1) := by rw [t2 43 (by decide)]; exact e4
      have G0 := Ty_good hD hB hN hpl 0 (gr_lt w N i 0) (Or.inr rfl)
      have G1 := Ty_good hD hB hN hpl 0 (gr_lt w N i 1) (Or.inr rfl)
      have G2 := Ty_good hD hB hN hpl 0 (gr_lt w N i 2) (Or.inr rfl)
      have bsn : bs (cP w N f dk ld rm (yv D B pl)) (i + 1) = if cP w N f dk ld rm (yv D B pl) i < (bs (cP w N f dk ld rm (yv D B pl)) i).1 then (cP w N f dk ld rm (yv D B pl) i, i) else bs (cP w N f dk ld rm (yv D B pl)) i := rfl
      have frame1 : ∀ a, a ≠ 43 → a ≠ 64 → t.1 a = k.1 a := fun a a1 a2 => by rw [t2 a a2]; exact e1 a a1 a2
      have frame2 : ∀ j, j ≠ 33 → j ≠ 34 → t.1 43 j = k.1 43 j := fun j j1 j2 => by rw [t2 43 (by decide)]; exact e2 j j1 j2
      have frame3 : t.2 = k.2 := by rw [t3]; exact e3
      have stay : ¬ cP w N f dk ld rm (yv D B pl) i < (bs (cP w N f dk ld rm (yv D B pl)) i).1 → lb_X12_layPlan_47 (nI w) (nI f) dv (nI (w ^ N)) (nI i) g = some (.inl (nI (i + 1), t)) → ∃ u : Int32 × PH, lb_X12_layPlan_47 (nI w) (nI f) dv (nI (w ^ N)) (nI i) g = some (.inl u) ∧ u.1 = nI (i + 1) ∧ (∀ a, a ≠ 43 → a ≠ 64 → u.2.1 a = k.1 a) ∧ (∀ j, j ≠ 33 → j ≠ 34 → u.2.1 43 j = k.1 43 j) ∧ u.2.2 = k.2 ∧ pM u.2 (cP w N f dk ld rm (yv D B pl)) (i + 1) := by
        intro hlt hbody
        refine ⟨(nI (i + 1), t), hbody, rfl, frame1, frame2, frame3, ?_, ?_⟩
        · show t.1 43 34 = _
          rw [bsn, if_neg hlt]
          exact t34
        · show t.1 43 33 = _
          rw [bsn, if_neg hlt, t2 43 (by decide)]
          exact e5
      have take : ∀ v, cP w N f dk ld rm (yv D B pl) i = v → v < (bs (cP w N f dk ld rm (yv D B pl)) i).1 → lb_X12_layPlan_47 (nI w) (nI f) dv (nI (w ^ N)) (nI i) g = some (.inl (nI (i + 1), ph_i (ph_i t 43 33 (nI i)) 43 34 (nI v))) → ∃ u : Int32 × PH, lb_X12_layPlan_47 (nI w) (nI f) dv (nI (w ^ N)) (nI i) g = some (.inl u) ∧ u.1 = nI (i + 1) ∧ (∀ a, a ≠ 43 → a ≠ 64 → u.2.1 a = k.1 a) ∧ (∀ j, j ≠ 33 → j ≠ 34 → u.2.1 43 j = k.1 43 j) ∧ u.2.2 = k.2 ∧ pM u.2 (cP w N f dk ld rm (yv D B pl)) (i + 1) := by
        intro v hv hlt hbody
        refine ⟨(nI (i + 1), ph_i (ph_i t 43 33 (nI i)) 43 34 (nI v)), hbody, rfl, fun a a1 a2 => ?_, fun j j1 j2 => ?_, frame3, ?_, ?_⟩
        · show (ph_i (ph_i t 43 33 (nI i)) 43 34 (nI v)).1 a = _
          rw [pr_ne a1, pr_ne a1]
          exact frame1 a a1 a2
        · show (ph_i (ph_i t 43 33 (nI i)) 43 34 (nI v)).1 43 j = _
          rw [pr_eq, if_neg j2, pr_eq, if_neg j1]
          exact frame2 j j1 j2
        · show (ph_i (ph_i t 43 33 (nI i)) 43 34 (nI v)).1 43 34 = _
          rw [pr_eq, if_pos rfl, bsn, hv, if_pos hlt]
          show nI v = nI (cv v)
          unfold cv
          rw [if_pos (by omega)]
        · show (ph_i (ph_i t 43 33 (nI i)) 43 34 (nI v)).1 43 33 = _
          rw [pr_eq, if_neg (by decide), pr_eq, if_pos rfl, bsn, hv, if_pos hlt]
          show nI i = if v < 1000000 then nI i else -9
          rw [if_pos (by omega)]
      show ∃ u : Int32 × PH, lb_X12_layPlan_47 (nI w) (nI f) dv (nI (w ^ N)) (nI i) g = some (.inl u) ∧ _
      have hdef : cP w N f dk ld rm (yv D B pl) i = if okL w N ld f i && (!dk || lit w N rm i) then yv D B pl (gr w N i 0) + yv D B pl (gr w N i 1) + yv D B pl (gr w N i 2) else 1000000 := rfl
      cases hok : okL w N ld f i with
      | false =>
        rw [hok] at tog hdef
        have hdef : cP w N f dk ld rm (yv D B pl) i = 1000000 := hdef
        refine stay (by rw [hdef]; omega) ?_
        unfold lb_X12_layPlan_47
        rw [if_neg (nI_ge hi (by omega)), t1, pu_b2, tog, pu_b1, t34, if_neg (show ¬ false = true by decide), if_pos (nI_le hcv (by decide)), pu_lt, ← nI_succ]
      | true =>
        rw [hok, if_pos rfl] at tog
        rw [hok, Bool.true_and] at hdef
        have G0 : yv D B pl (gr w N i 0) ≤ 99 * 9 ∨ 1000000 ≤ yv D B pl (gr w N i 0) ∧ yv D B pl (gr w N i 0) ≤ 9000800 := G0
        have G1 : yv D B pl (gr w N i 1) ≤ 99 * 9 ∨ 1000000 ≤ yv D B pl (gr w N i 1) ∧ yv D B pl (gr w N i 1) ≤ 9000800 := G1
        have G2 : yv D B pl (gr w N i 2) ≤ 99 * 9 ∨ 1000000 ≤ yv D B pl (gr w N i 2) ∧ yv D B pl (gr w N i 2) ≤ 9000800 := G2
        generalize yv D B pl (gr w N i 0) = v0 at *
        generalize yv D B pl (gr w N i 1) = v1 at *
        generalize yv D B pl (gr w N i 2) = v2 at *
        have b0 := @cv_le v0
        have b1 := @cv_le v1
        have b2 := @cv_le v2
        generalize hbv : (bs (cP w N f dk ld rm (yv D B pl)) i).1 = bv at *
        -- the sum as both see it
        have sums : (v0 + v1 + v2 < 1000000 ∧ cv v0 + cv v1 + cv v2 = v0 + v1 + v2) ∨ (1000000 ≤ v0 + v1 + v2 ∧ 10000000 ≤ cv v0 + cv v1 + cv v2) := by
          have one : ∀ v, (v ≤ 99 * 9 ∨ 1000000 ≤ v ∧ v ≤ 9000800) → (v ≤ 891 ∧ cv v = v) ∨ (1000000 ≤ v ∧ cv v = 10000000) := by
            intro v hv
            unfold cv
            rcases hv with z | z
            · left; rw [if_pos (by omega)]; omega
            · right; rw [if_neg (by omega)]; omega
          have o0 := one v0 G0
          have o1 := one v1 G1
          have o2 := one v2 G2
          clear tog hdef stay take one G0 G1 G2
          omega
        by_cases hlt : v0 + v1 + v2 < bv
        · have hs : cv v0 + cv v1 + cv v2 = v0 + v1 + v2 := by
            rcases sums with z | z
            · exact z.2
            · omega
          have hlt2 : v0 + v1 + v2 < cv bv := by
            unfold cv
            split <;> omega
          rw [hs] at tog
          by_cases hdv : dv = 0
          · have hd0 : dk = false := by rw [hdk]; simp [hdv]
            rw [hd0] at hdef
            have hdef : cP w N f dk ld rm (yv D B pl) i = v0 + v1 + v2 := by rw [hd0]; exact hdef
            refine take _ hdef hlt ?_
            unfold lb_X12_layPlan_47
            rw [if_neg (nI_ge hi (by omega)), t1, pu_b2, tog, pu_b1, t34, if_neg (nI_ge hlt2 (by omega)), if_pos hdv, pu_lt, pu_lt, pu_lt, ← nI_succ]
          · have hd1 : dk = true := by rw [hdk]; simp [hdv]
            rw [hd1] at hdef
            cases hlit : lit w N rm i with
            | true =>
              rw [hlit] at hdef drk
              have hdef : cP w N f dk ld rm (yv D B pl) i = v0 + v1 + v2 := by rw [hd1]; exact hdef
              refine take _ hdef hlt ?_
              unfold lb_X12_layPlan_47
              rw [if_neg (nI_ge hi (by omega)), t1, pu_b2, tog, pu_b1, t34, if_neg (nI_ge hlt2 (by omega)), if_neg hdv, drk, pu_b1, if_pos (show true = true from rfl), if_pos rfl, pu_lt, pu_lt, pu_lt, ← nI_succ]
            | false =>
              rw [hlit] at hdef drk
              have hdef : cP w N f dk ld rm (yv D B pl) i = 1000000 := by rw [hd1]; exact hdef
              refine stay (by rw [hdef]; omega) ?_
              unfold lb_X12_layPlan_47
              rw [if_neg (nI_ge hi (by omega)), t1, pu_b2, tog, pu_b1, t34, if_neg (nI_ge hlt2 (by omega)), if_neg hdv, drk, pu_b1, if_neg (show ¬ false = true by decide), if_neg (show ¬ (1 : Int32) = 0 by decide), pu_lt, ← nI_succ]
        · have hge : cv bv ≤ cv v0 + cv v1 + cv v2 := by
            rcases sums with z | z
            · rw [z.2]
              unfold cv
              rw [if_pos (by omega)]
              omega
            · omega
          refine stay ?_ ?_
          · rw [hdef]
            split <;> omega
          · unfold lb_X12_layPlan_47
            rw [if_neg (nI_ge hi (by omega)), t1, pu_b2, tog, pu_b1, t34, if_pos (nI_le hge (by omega)), pu_lt, ← nI_succ]
    · rintro ⟨x, g⟩ ⟨e0, e1, e2, e3, e4⟩
      obtain rfl : x = nI (w ^ N) := e0
      refine ⟨(nI (w ^ N), g), ?_, e1, e2, e3, e4⟩
      show lb_X12_layPlan_47 (nI w) (nI f) dv (nI (w ^ N)) (nI (w ^ N)) g = _
      unfold lb_X12_layPlan_47
      rw [if_pos (nI_le (Nat.le_refl _) (by omega))]
    · show h4.1 43 34 = _
      rw [← hh, pr_eq, if_pos rfl]
      rfl
    · show h4.1 43 33 = _
      rw [← hh, pr_eq, if_neg (by decide), pr_eq, if_pos rfl]
      rfl
  obtain ⟨s, s1, s2, s3, s4, s5⟩ := hL
  refine ⟨s.2, ?_, fun a a1 a2 a3 => by rw [s2 a a1 a3, k2 a a2], fun j j1 j2 => by rw [s3 j j1 j2, k2 43 (by decide)], by rw [s4, k3], s5⟩
  unfold f_X12_layPlan
  rw [k1, pu_b2, pu_lt, pu_lt, hh, rows, pu_b1, s1, pu_b1]
