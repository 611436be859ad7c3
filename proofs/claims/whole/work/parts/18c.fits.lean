/-! METERS: how many sets fit; sure, never; next -/
def cn (f : Nat → Bool) : Nat → Nat
  | 0 => 0
  | m + 1 => cn f m + if f m then 1 else 0
theorem cn_le (f : Nat → Bool) : ∀ m, cn f m ≤ m
  | 0 => Nat.le_refl 0
  | m + 1 => by
    have := cn_le f m
    unfold cn
    split <;> omega
theorem cn_and (f g : Nat → Bool) : ∀ m, cn (fun i => f i && g i) m ≤ cn f m
  | 0 => Nat.le_refl 0
  | m + 1 => by
    have := cn_and f g m
    unfold cn
    cases f m <;> cases g m <;> simp <;> omega
theorem cn_all {f g : Nat → Bool} : ∀ m, cn (fun i => f i && g i) m = cn f m ↔ ∀ i, i < m → f i = true → g i = true
  | 0 => ⟨fun _ i hi => by omega, fun _ => rfl⟩
  | m + 1 => by
    have ih := cn_all (f := f) (g := g) m
    have hl := cn_and f g m
    unfold cn
    constructor
    · intro h i hi hf
      have hm : cn (fun i => f i && g i) m = cn f m ∧ (f m = true → g m = true) := by
        cases hfm : f m <;> cases hgm : g m <;> simp [hfm, hgm] at h ⊢ <;> omega
      by_cases him : i = m
      · subst him; exact hm.2 hf
      · exact ih.mp hm.1 i (by omega) hf
    · intro h
      have h1 := ih.mpr (fun i hi => h i (by omega))
      have h2 := h m (by omega)
      cases hfm : f m <;> cases hgm : g m <;> simp [hfm, hgm] at h2 ⊢ <;> omega
theorem cn_none {f : Nat → Bool} : ∀ m, cn f m = 0 ↔ ∀ i, i < m → f i = false
  | 0 => ⟨fun _ i hi => by omega, fun _ => rfl⟩
  | m + 1 => by
    have ih := cn_none (f := f) m
    unfold cn
    constructor
    · intro h i hi
      have hm : cn f m = 0 ∧ f m = false := by
        cases hfm : f m <;> simp [hfm] at h ⊢ <;> omega
      by_cases him : i = m
      · subst him; exact hm.2
      · exact ih.mp hm.1 i (by omega)
    · intro h
      rw [ih.mpr (fun i hi => h i (by omega)), h m (by omega)]
      rfl
/-- the set of those below n for which c says yes -/
def sf (c : Nat → Bool) : Nat → Nat
  | 0 => 0
  | p + 1 => if c p then sf c p ||| 2 ^ p else sf c p
theorem sf_lt (c : Nat → Bool) : ∀ n, sf c n < 2 ^ n
  | 0 => Nat.one_pos
  | n + 1 => by
    have := sf_lt c n
    unfold sf
    split
    · exact Nat.or_lt_two_pow (by rw [Nat.pow_succ]; omega) (by rw [Nat.pow_succ]; have := Nat.two_pow_pos n; omega)
    · rw [Nat.pow_succ]; omega
theorem sf_bit (c : Nat → Bool) (q : Nat) : ∀ n, (sf c n).testBit q = true ↔ q < n ∧ c q = true
  | 0 => by
    show (0 : Nat).testBit q = true ↔ _
    rw [Nat.zero_testBit]
    exact ⟨fun h => (by cases h), fun h => by omega⟩
  | n + 1 => by
    have ih := sf_bit c q n
    unfold sf
    by_cases hc : c n = true
    · rw [if_pos hc, add_bit, ih]
      constructor
      · rintro (h | rfl)
        · exact ⟨by omega, h.2⟩
        · exact ⟨by omega, hc⟩
      · rintro ⟨h1, h2⟩
        by_cases hq : q = n
        · exact Or.inr hq
        · exact Or.inl ⟨by omega, h2⟩
    · rw [if_neg hc, ih]
      constructor
      · rintro ⟨h1, h2⟩; exact ⟨by omega, h2⟩
      · rintro ⟨h1, h2⟩
        refine ⟨?_, h2⟩
        by_cases hq : q = n
        · subst hq; exact absurd h2 hc
        · omega
/-- class: counting one set -/
theorem s_count {h : PH} {mine : Nat} (hm : mine < 256) : ∃ g, f_X4_countIn (nI mine) h = some ((), g) ∧ (∀ a, a ≠ 37 → a ≠ 41 → g.1 a = h.1 a) ∧ (∀ j, g.1 37 j = if j = 1 then h.1 37 1 + 1 else h.1 37 j) ∧ g.2 = h.2 ∧ ∀ p, p < 8 → g.1 41 p = h.1 41 p + (if mine.testBit p then 1 else 0) := by
  have hL : ∃ r, lp_f (fun s => lb_X4_countIn_12 (nI mine) s.1 s.2) fu_l (0, ph_i h 37 1 (h.1 37 1 + 1)) = some r ∧ ((∀ a, a ≠ 41 → r.2.1 a = (ph_i h 37 1 (h.1 37 1 + 1)).1 a) ∧ r.2.2 = h.2 ∧ ∀ p, p < 8 → r.2.1 41 p = h.1 41 p + (if mine.testBit p then 1 else 0)) := by
    refine lp_0 (fun i s => s.1 = nI i ∧ (∀ a, a ≠ 41 → s.2.1 a = (ph_i h 37 1 (h.1 37 1 + 1)).1 a) ∧ s.2.2 = h.2 ∧ ∀ p, p < 8 → s.2.1 41 p = if p < i then h.1 41 p + (if mine.testBit p then 1 else 0) else h.1 41 p) _ 8 (by omega) ?_ ?_ _ ⟨rfl, fun a ha => rfl, rfl, fun p hp => by rw [if_neg (by omega)]; exact congrFun (pr_ne (by decide)) p⟩
    · rintro i ⟨x, g⟩ hi ⟨rfl, e1, e2, e3⟩
      left
      refine ⟨(nI (i + 1), ph_i g 41 i (g.1 41 i + (if mine.testBit i then 1 else 0))), ?_, rfl, ?_, e2, ?_⟩
      · show lb_X4_countIn_12 (nI mine) (nI i) g = _
        unfold lb_X4_countIn_12
        rw [if_neg (show ¬ (8 : Int32) ≤ nI i from nI_ge (b := 8) hi (by decide)), pu_gn hi (by decide), pu_gn hi (by decide), nI_clamp (by omega), bt_t hm hi, pu_lt, pu_lt, ← nI_succ]
      · intro a ha
        show (ph_i g 41 i _).1 a = _
        rw [pr_ne ha]
        exact e1 a ha
      · intro p hp
        show (ph_i g 41 i _).1 41 p = _
        rw [pr_eq]
        by_cases hpi : p = i
        · subst hpi
          rw [if_pos rfl, if_pos (show p < p + 1 by omega), e3 p hp, if_neg (show ¬ p < p by omega)]
        · rw [if_neg hpi, e3 p hp]
          by_cases hlt : p < i
          · rw [if_pos hlt, if_pos (show p < i + 1 by omega)]
          · rw [if_neg hlt, if_neg (show ¬ p < i + 1 by omega)]
    · rintro ⟨x, g⟩ ⟨rfl, e1, e2, e3⟩
      refine ⟨(nI 8, g), ?_, e1, e2, fun p hp => by rw [e3 p hp, if_pos hp]⟩
      show lb_X4_countIn_12 (nI mine) (nI 8) g = _
      unfold lb_X4_countIn_12
      rw [if_pos (by decide)]
  obtain ⟨r, r1, r2, r3, r4⟩ := hL
  refine ⟨r.2, ?_, fun a h1 h2 => by rw [r2 a h2, pr_ne h1], fun j => by rw [r2 37 (by decide), pr_eq], r3, r4⟩
  unfold f_X4_countIn
  rw [pu_lt, r1, pu_b1]
/-- what the meter has counted -/
def wgd (h g : PH) (f : Nat → Bool) (m : Nat) : Prop := (∀ a, a ≠ 37 → a ≠ 40 → a ≠ 41 → g.1 a = h.1 a) ∧ (∀ j, j ≠ 1 → g.1 37 j = h.1 37 j) ∧ g.2 = h.2 ∧ g.1 37 1 = nI (cn f m) ∧ ∀ p, p < 8 → g.1 41 p = nI (cn (fun i => f i && i.testBit p) m)
theorem s_weigh {h : PH} {N M : Nat} {ld st sh : Nat → Nat} (hN : N ≤ 8) (hM : M ≤ 12) (hld : ∀ p, p < N → ld p ≤ 20) (h17 : h.1 17 0 = nI N) (h19 : ∀ p, p < N → h.1 19 p = nI (ld p)) (h37 : h.1 37 0 = nI M) (h38 : ∀ k, k < M → h.1 38 k = nI (st k)) (h39 : ∀ k, k < M → h.1 39 k = nI (sh k) ∧ sh k ≤ 200) : ∃ g, f_X4_weigh h = some ((), g) ∧ wgd h g (fb ld N st sh M) (2 ^ N) := by
  have h2 := p2_le hN
  have h2p := Nat.two_pow_pos N
  have hA : ∃ r, lp_f (fun s => lb_X4_weigh_7 s.1 s.2) fu_l (0, ph_i h 37 1 0) = some r ∧ ((∀ a, a ≠ 41 → r.2.1 a = (ph_i h 37 1 0).1 a) ∧ r.2.2 = h.2 ∧ ∀ p, p < 8 → r.2.1 41 p = 0) := by
    refine lp_0 (fun i s => s.1 = nI i ∧ (∀ a, a ≠ 41 → s.2.1 a = (ph_i h 37 1 0).1 a) ∧ s.2.2 = h.2 ∧ ∀ p, p < i → s.2.1 41 p = 0) _ 8 (by omega) ?_ ?_ _ ⟨rfl, fun a ha => rfl, rfl, fun p hp => by omega⟩
    · rintro i ⟨x, g⟩ hi ⟨rfl, e1, e2, e3⟩
      left
      refine ⟨(nI (i + 1), ph_i g 41 i 0), ?_, rfl, ?_, e2, ?_⟩
      · show lb_X4_weigh_7 (nI i) g = _
        unfold lb_X4_weigh_7
        rw [if_neg (show ¬ (8 : Int32) ≤ nI i from nI_ge (b := 8) hi (by decide)), pu_gn hi (by decide), nI_clamp (by omega), pu_lt, pu_lt, ← nI_succ]
      · intro a ha
        show (ph_i g 41 i _).1 a = _
        rw [pr_ne ha]
        exact e1 a ha
      · intro p hp
        show (ph_i g 41 i _).1 41 p = _
        rw [pr_eq]
        by_cases hpi : p = i
        · rw [if_pos hpi]
        · rw [if_neg hpi]; exact e3 p (by omega)
    · rintro ⟨x, g⟩ ⟨rfl, e1, e2, e3⟩
      refine ⟨(nI 8, g), ?_, e1, e2, e3⟩
      show lb_X4_weigh_7 (nI 8) g = _
      unfold lb_X4_weigh_7
      rw [if_pos (by decide)]
  obtain ⟨ra, ra1, ra2, ra3, ra4⟩ := hA
  obtain ⟨gb, gb1, gb2, gb3, gb4⟩ := s_addUp (h := ra.2) (ld := ld) hN (by rw [ra2 17 (by decide), pr_ne (by decide)]; exact h17) (fun p hp => by rw [ra2 19 (by decide), pr_ne (by decide)]; exact h19 p hp)
  have E : ∀ a, a ≠ 37 → a ≠ 40 → a ≠ 41 → gb.1 a = h.1 a := fun a x1 x2 x3 => by rw [gb2 a x2, ra2 a x3, pr_ne x1]
  have E37 : ∀ j, gb.1 37 j = if j = 1 then 0 else h.1 37 j := fun j => by rw [gb2 37 (by decide), ra2 37 (by decide), pr_eq]
  have hB : ∃ r, lp_f (fun s => lb_X4_weigh_33 s.1 s.2) fu_l (0, gb) = some r ∧ wgd h r.2 (fb ld N st sh M) (2 ^ N) := by
    refine lp_0 (fun i s => s.1 = nI i ∧ s.2.1 40 = gb.1 40 ∧ wgd h s.2 (fb ld N st sh M) i) _ (2 ^ N) (by omega) ?_ ?_ _ ⟨rfl, rfl, E, fun j hj => by show gb.1 37 j = _; rw [E37, if_neg hj], by show gb.2 = _; rw [gb3]; exact ra3, by show gb.1 37 1 = _; rw [E37, if_pos rfl]; rfl, fun p hp => by show gb.1 41 p = _; rw [gb2 41 (by decide), ra4 p hp]; rfl⟩
    · rintro i ⟨x, g⟩ hi ⟨rfl, e40, e1, e2, e3, e4, e5⟩
      left
      have g17 : g.1 17 0 = nI N := by rw [e1 17 (by decide) (by decide) (by decide)]; exact h17
      have hf := s_fit (h := g) (mine := i) (st := st) (sh := sh) hN hM hi hld (by rw [e2 0 (by decide)]; exact h37) (fun k hk => by rw [e1 38 (by decide) (by decide) (by decide)]; exact h38 k hk) (fun k hk => by rw [e1 39 (by decide) (by decide) (by decide)]; exact h39 k hk) (fun s hs => by show g.1 40 s = _; rw [show g.1 40 = gb.1 40 from e40]; exact gb4 s hs)
      have hc : ¬ nI (2 ^ N - 1) < nI i := nI_nlt (by omega) (by omega)
      by_cases hb : fb ld N st sh M i = true
      · obtain ⟨k, k1, k2, k3, k4, k5⟩ := s_count (h := g) (mine := i) (by omega)
        refine ⟨(nI (i + 1), k), ?_, rfl, ?_, ?_, ?_, ?_, ?_, ?_⟩
        · show lb_X4_weigh_33 (nI i) g = _
          unfold lb_X4_weigh_33 f_X6_all
          rw [g17, sh_all hN, pu_b1, if_neg hc, hf, pu_b1, hb, if_pos rfl, if_neg (by decide), k1, pu_b2, pu_lt, ← nI_succ]
        · show k.1 40 = _
          rw [k2 40 (by decide) (by decide)]; exact e40
        · intro a x1 x2 x3
          show k.1 a = _
          rw [k2 a x1 x3]; exact e1 a x1 x2 x3
        · intro j hj
          show k.1 37 j = _
          rw [k3, if_neg hj]; exact e2 j hj
        · show k.2 = _
          rw [k4]; exact e3
        · show k.1 37 1 = _
          have : g.1 37 1 = nI (cn (fb ld N st sh M) i) := e4
          rw [k3, if_pos rfl, this, ← nI_succ]
          show _ = nI (cn _ i + _)
          rw [hb]
          rfl
        · intro p hp
          show k.1 41 p = _
          have : g.1 41 p = nI (cn (fun i => fb ld N st sh M i && i.testBit p) i) := e5 p hp
          rw [k5 p hp, this]
          show _ = nI (cn _ i + if (fb ld N st sh M i && i.testBit p) = true then 1 else 0)
          rw [hb, Bool.true_and, ← nI_add]
          cases i.testBit p <;> rfl
      · have hb' : fb ld N st sh M i = false := by simpa using hb
        refine ⟨(nI (i + 1), g), ?_, rfl, e40, e1, e2, e3, ?_, ?_⟩
        · show lb_X4_weigh_33 (nI i) g = _
          unfold lb_X4_weigh_33 f_X6_all
          rw [g17, sh_all hN, pu_b1, if_neg hc, hf, pu_b1, hb', if_neg (show ¬ false = true by decide), if_pos rfl, pu_lt, ← nI_succ]
        · show g.1 37 1 = nI (cn _ i + _)
          rw [hb']
          exact e4
        · intro p hp
          show g.1 41 p = nI (cn _ i + if (fb ld N st sh M i && i.testBit p) = true then 1 else 0)
          rw [hb', Bool.false_and]
          exact e5 p hp
    · rintro ⟨x, g⟩ ⟨rfl, e40, e1, e2, e3, e4, e5⟩
      refine ⟨(nI (2 ^ N), g), ?_, e1, e2, e3, e4, e5⟩
      have g17 : g.1 17 0 = nI N := by rw [e1 17 (by decide) (by decide) (by decide)]; exact h17
      show lb_X4_weigh_33 (nI (2 ^ N)) g = _
      unfold lb_X4_weigh_33 f_X6_all
      rw [g17, sh_all hN, pu_b1, if_pos (nI_lt (by omega) (by omega))]
  obtain ⟨rb, rb1, rb2⟩ := hB
  refine ⟨rb.2, ?_, rb2⟩
  unfold f_X4_weigh
  rw [pu_lt, ra1, pu_b1, gb1, pu_b2, rb1, pu_b1]
/-- class: sure, never -/
theorem s_ofAll {g : PH} {N F : Nat} {w : Nat → Nat} (hN : N ≤ 8) (hF : F ≤ 256) (hw : ∀ p, p < 8 → w p ≤ 256) (h1 : g.1 37 1 = nI F) (h41 : ∀ p, p < 8 → g.1 41 p = nI (w p)) : f_X4_ofAll (nI N) g = some (nI (if F = 0 then 0 else sf (fun p => decide (w p = F)) N)) := by
  have hL : ∃ r, lp_f (fun s => lb_X4_ofAll_4 (nI N) g s.1 s.2) fu_l (0, 0) = some r ∧ r.1 = nI (if F = 0 then 0 else sf (fun p => decide (w p = F)) N) := by
    refine lp_0 (fun i s => s.2 = nI i ∧ s.1 = nI (if F = 0 then 0 else sf (fun p => decide (w p = F)) i)) _ N (by omega) ?_ ?_ (0, 0) ⟨rfl, by rw [show sf (fun p => decide (w p = F)) 0 = 0 from rfl, ite_self]; rfl⟩
    · rintro i ⟨x, y⟩ hi ⟨rfl, e⟩
      have e' : x = nI (if F = 0 then 0 else sf (fun p => decide (w p = F)) i) := e
      subst e'
      by_cases hz : F = 0
      · right
        refine ⟨(nI (if F = 0 then 0 else sf (fun p => decide (w p = F)) i), nI i), ?_, by rw [if_pos hz, if_pos hz]⟩
        show lb_X4_ofAll_4 (nI N) g _ (nI i) = _
        unfold lb_X4_ofAll_4
        rw [if_neg (nI_ge hi (by omega)), h1, hz, if_pos (by decide)]
      · left
        refine ⟨(nI (if F = 0 then 0 else sf (fun p => decide (w p = F)) (i + 1)), nI (i + 1)), ?_, rfl, rfl⟩
        have hs := sf_lt (fun p => decide (w p = F)) i
        have hs2 : 2 ^ i ≤ 256 := p2_le (show i ≤ 8 by omega)
        have hw' := hw i (by omega)
        show lb_X4_ofAll_4 (nI N) g _ (nI i) = _
        unfold lb_X4_ofAll_4
        rw [if_neg (nI_ge hi (by omega)), h1, if_neg (nI_nle (by omega) (by omega)), pu_gn (show i < 8 by omega) (by decide), nI_clamp (by omega), h41 i (by omega), if_neg hz, if_neg hz]
        by_cases hq : w i = F
        · rw [if_pos (by rw [hq]), bt_o (by omega) (by omega), pu_lt, pu_lt, ← nI_succ, show sf (fun p => decide (w p = F)) (i + 1) = sf (fun p => decide (w p = F)) i ||| 2 ^ i from if_pos (by simp [hq])]
        · rw [if_neg (by rw [nI_eq (by omega) (by omega)]; exact hq), pu_lt, pu_lt, ← nI_succ, show sf (fun p => decide (w p = F)) (i + 1) = sf (fun p => decide (w p = F)) i from if_neg (by simp [hq])]
          show some (Sum.inl (nI _ ||| nI 0, _)) = _
          rw [nI_or, Nat.or_zero]
    · rintro ⟨x, y⟩ ⟨rfl, e⟩
      refine ⟨(x, nI N), ?_, e⟩
      show lb_X4_ofAll_4 (nI N) g x (nI N) = _
      unfold lb_X4_ofAll_4
      rw [if_pos (nI_le (Nat.le_refl _) (by omega))]
  obtain ⟨r, r1, r2⟩ := hL
  unfold f_X4_ofAll
  rw [r1, pu_b1, r2]
theorem s_ofNone {g : PH} {N F : Nat} {w : Nat → Nat} (hN : N ≤ 8) (hF : F ≤ 256) (hw : ∀ p, p < 8 → w p ≤ 256) (h1 : g.1 37 1 = nI F) (h41 : ∀ p, p < 8 → g.1 41 p = nI (w p)) : f_X4_ofNone (nI N) g = some (nI (if F = 0 then 0 else sf (fun p => decide (w p = 0)) N)) := by
  have hL : ∃ r, lp_f (fun s => lb_X4_ofNone_4 (nI N) g s.1 s.2) fu_l (0, 0) = some r ∧ r.1 = nI (if F = 0 then 0 else sf (fun p => decide (w p = 0)) N) := by
    refine lp_0 (fun i s => s.2 = nI i ∧ s.1 = nI (if F = 0 then 0 else sf (fun p => decide (w p = 0)) i)) _ N (by omega) ?_ ?_ (0, 0) ⟨rfl, by rw [show sf (fun p => decide (w p = 0)) 0 = 0 from rfl, ite_self]; rfl⟩
    · rintro i ⟨x, y⟩ hi ⟨rfl, e⟩
      have e' : x = nI (if F = 0 then 0 else sf (fun p => decide (w p = 0)) i) := e
      subst e'
      by_cases hz : F = 0
      · right
        refine ⟨(nI (if F = 0 then 0 else sf (fun p => decide (w p = 0)) i), nI i), ?_, by rw [if_pos hz, if_pos hz]⟩
        show lb_X4_ofNone_4 (nI N) g _ (nI i) = _
        unfold lb_X4_ofNone_4
        rw [if_neg (nI_ge hi (by omega)), h1, hz, if_pos (by decide)]
      · left
        refine ⟨(nI (if F = 0 then 0 else sf (fun p => decide (w p = 0)) (i + 1)), nI (i + 1)), ?_, rfl, rfl⟩
        have hs := sf_lt (fun p => decide (w p = 0)) i
        have hs2 : 2 ^ i ≤ 256 := p2_le (show i ≤ 8 by omega)
        have hw' := hw i (by omega)
        show lb_X4_ofNone_4 (nI N) g _ (nI i) = _
        unfold lb_X4_ofNone_4
        rw [if_neg (nI_ge hi (by omega)), h1, if_neg (nI_nle (by omega) (by omega)), pu_gn (show i < 8 by omega) (by decide), nI_clamp (by omega), h41 i (by omega), if_neg hz, if_neg hz]
        by_cases hq : w i = 0
        · rw [if_pos (by rw [hq]; rfl), bt_o (by omega) (by omega), pu_lt, pu_lt, ← nI_succ, show sf (fun p => decide (w p = 0)) (i + 1) = sf (fun p => decide (w p = 0)) i ||| 2 ^ i from if_pos (by simp [hq])]
        · rw [if_neg (nI_ne0 (by omega) (by omega)), pu_lt, pu_lt, ← nI_succ, show sf (fun p => decide (w p = 0)) (i + 1) = sf (fun p => decide (w p = 0)) i from if_neg (by simp [hq])]
          show some (Sum.inl (nI _ ||| nI 0, _)) = _
          rw [nI_or, Nat.or_zero]
    · rintro ⟨x, y⟩ ⟨rfl, e⟩
      refine ⟨(x, nI N), ?_, e⟩
      show lb_X4_ofNone_4 (nI N) g x (nI N) = _
      unfold lb_X4_ofNone_4
      rw [if_pos (nI_le (Nat.le_refl _) (by omega))]
  obtain ⟨r, r1, r2⟩ := hL
  unfold f_X4_ofNone
  rw [r1, pu_b1, r2]
