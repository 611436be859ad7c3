/-! LEAST CABLE: the reference's table -/
/-- yards from a point, or from the box (8), to a point -/
def Gy (D : Nat → Nat → Nat) (B : Nat) (pl : Nat → Nat) (a q : Nat) : Nat := Yd D (if a = 8 then B else pl a) (pl q)
/-- yards home: none, but of a ring -/
def Hy (D : Nat → Nat → Nat) (B : Nat) (pl : Nat → Nat) (kd a : Nat) : Nat := if kd = 1 then Yd D (if a = 8 then B else pl a) B else 0
abbrev Ty (D : Nat → Nat → Nat) (B : Nat) (pl : Nat → Nat) (kd : Nat) : Nat → Nat → Nat := Tl (Gy D B pl) (Hy D B pl kd)
/-- points as the reference holds them -/
def mQ (h : PH) (P N B : Nat) (D : Nat → Nat → Nat) (pl : Nat → Nat) : Prop := mD h P D ∧ N ≤ 8 ∧ h.1 43 19 = nI N ∧ (∀ p, p < N → h.1 54 p = nI (pl p) ∧ pl p < P) ∧ h.1 43 2 = nI B ∧ B < P
theorem mQ_fr {h g : PH} {P N B : Nat} {D : Nat → Nat → Nat} {pl : Nat → Nat} (hq : mQ h P N B D pl) (e53 : g.1 53 = h.1 53) (e54 : g.1 54 = h.1 54) (e19 : g.1 43 19 = h.1 43 19) (e2 : g.1 43 2 = h.1 43 2) : mQ g P N B D pl := by
  unfold mQ
  rw [e19, e2, e54]
  exact ⟨mD_fr hq.1 e53, hq.2⟩
section MQ
variable {h : PH} {P N B : Nat} {D : Nat → Nat → Nat} {pl : Nat → Nat}
theorem pb_lt (hB : B < P) (hpl : ∀ p, p < N → pl p < P) {a : Nat} (ha : a < N ∨ a = 8) : (if a = 8 then B else pl a) < P := by
  by_cases h8 : a = 8
  · rw [if_pos h8]; exact hB
  · rw [if_neg h8]; exact hpl a (ha.resolve_right h8)
theorem Yd_g (hD : ∀ a b, a < P → b < P → D a b < 100000 ∨ D a b = 1000000) {a b : Nat} (ha : a < P) (hb : b < P) : Yd D a b ≤ 99 ∨ Yd D a b = 1000000 := by
  have h1 := hD a b ha hb
  unfold Yd
  by_cases hq : D a b = 1000000
  · rw [if_pos hq]; exact Or.inr rfl
  · rw [if_neg hq]; left; omega
theorem Ty_good (hD : ∀ a b, a < P → b < P → D a b < 100000 ∨ D a b = 1000000) (hB : B < P) (hN : N ≤ 8) (hpl : ∀ p, p < N → pl p < P) (kd : Nat) {s a : Nat} (hs : s < 2 ^ N) (ha : a < N ∨ a = 8) : Ty D B pl kd s a ≤ 99 * 9 ∨ (1000000 ≤ Ty D B pl kd s a ∧ Ty D B pl kd s a ≤ 9000800) := by
  have h2 := p2_le hN
  have hb : ∀ q, s.testBit q = true → q < N := fun q hq => bit_lt hs hq
  have hp8 := pc_le s
  have g : ∀ a, (a < N ∨ a = 8) → ∀ q, q < N → Gy D B pl a q ≤ 99 ∨ Gy D B pl a q = 1000000 := fun a ha q hq => Yd_g hD (pb_lt hB hpl ha) (hpl q hq)
  have hh : ∀ a, (a < N ∨ a = 8) → Hy D B pl kd a ≤ 99 ∨ Hy D B pl kd a = 1000000 := by
    intro a ha
    unfold Hy
    split
    · exact Yd_g hD (pb_lt hB hpl ha) hB
    · exact Or.inl (Nat.zero_le _)
  rcases Tl_good (G := Gy D B pl) (hm := Hy D B pl kd) 8 s a (by omega) hp8 (fun q hq => g a ha q (hb q hq)) (fun p q hp hq => g p (Or.inl (hb p hp)) q (hb q hq)) (hh a ha) (fun p hp => hh p (Or.inl (hb p hp))) with h1 | h1
  · left
    have : Tl (Gy D B pl) (Hy D B pl kd) s a ≤ 99 * (pc s + 1) := h1
    show Tl (Gy D B pl) (Hy D B pl kd) s a ≤ 99 * 9
    omega
  · right
    show 1000000 ≤ Tl (Gy D B pl) (Hy D B pl kd) s a ∧ Tl (Gy D B pl) (Hy D B pl kd) s a ≤ 9000800
    have := h1.2
    omega
theorem m_pb (hq : mQ h P N B D pl) {a : Nat} (ha : a < N ∨ a = 8) : f_X12_placeBy (nI a) h = some (nI (if a = 8 then B else pl a)) := by
  unfold f_X12_placeBy
  have hN := hq.2.1
  by_cases h8 : a = 8
  · subst h8
    rw [if_pos (show nI 8 = 8 from rfl), if_pos rfl, hq.2.2.2.2.1]
  · have haN := ha.resolve_right h8
    rw [if_neg (show ¬ nI a = 8 from fun q => h8 (nI_inj (show nI a = nI 8 from q) (by omega) (by decide))), if_neg h8, pu_gn (show a < 8 by omega) (by decide), nI_clamp (by omega), (hq.2.2.2.1 a haN).1]
theorem m_yb (hq : mQ h P N B D pl) {a b : Nat} (ha : a < N ∨ a = 8) (hb : b < N ∨ b = 8) : f_X12_yardsBy (nI a) (nI b) h = some (nI (cv (Yd D (if a = 8 then B else pl a) (if b = 8 then B else pl b)))) := by
  have hpl : ∀ p, p < N → pl p < P := fun p hp => (hq.2.2.2.1 p hp).2
  have h1 := pb_lt hq.2.2.2.2.2 hpl ha
  have h2 := pb_lt hq.2.2.2.2.2 hpl hb
  have hP8 := hq.1.1
  have hd := hq.1.2 _ _ h1 h2
  unfold f_X12_yardsBy
  rw [m_pb hq ha, pu_b1, m_pb hq hb, pu_b1]
  generalize (if a = 8 then B else pl a) = x at *
  generalize (if b = 8 then B else pl b) = y at *
  rw [x8', pu_gn (show 8 * x + y < 64 by omega) (by decide), nI_clamp (by omega), hd.1, pu_lt]
  unfold Yd cv
  by_cases hz : D x y = 1000000
  · rw [if_pos hz, if_neg (by decide), if_pos hz]
    rfl
  · rw [if_neg hz, if_neg hz, if_pos (show nI (D x y) < 10000000 from nI_lt (b := 10000000) (by omega) (by decide)), if_pos (by omega)]
    show some (nI _ / nI 1000) = _
    rw [nI_div (by omega) (by decide)]
/-- one entry of the table -/
theorem m_need64 (hq : mQ h P N B D pl) (kd : Nat) (x1 : Int32) {s a : Nat} (hs : s < 2 ^ N) (h0 : 0 < s) (ha : a < N ∨ a = 8) (ht : ∀ q, s.testBit q = true → h.1 63 (9 * rm1 s q + q) = nI (cv (Ty D B pl kd (rm1 s q) q))) : ∃ y, lp_f (fun t => lb_X12_layNeeds_64 x1 (nI s) (nI a) h t.1 t.2) fu_l (nI 10000000, 0) = some (nI (cv (Ty D B pl kd s a)), y) := by
  have hN := hq.2.1
  have h2 := p2_le hN
  have hpl : ∀ p, p < N → pl p < P := fun p hp => (hq.2.2.2.1 p hp).2
  have hD : ∀ a b, a < P → b < P → D a b < 100000 ∨ D a b = 1000000 := fun a b ha hb => (hq.1.2 a b ha hb).2
  have hB := hq.2.2.2.2.2
  have h8 : ∀ n, n ≤ 8 - N → mnq s (fun q => Gy D B pl a q + Ty D B pl kd (rm1 s q) q) (N + n) = mnq s (fun q => Gy D B pl a q + Ty D B pl kd (rm1 s q) q) N := by
    intro n
    induction n with
    | zero => intro _; rfl
    | succ n ih =>
      intro hn
      show (if s.testBit (N + n) = true then _ else mnq s _ (N + n)) = _
      rw [if_neg (fun q => by have := bit_lt hs q; omega), ih (by omega)]
  have hT : Ty D B pl kd s a = mnq s (fun q => Gy D B pl a q + Ty D B pl kd (rm1 s q) q) N := by
    show Tl _ _ s a = _
    rw [Tl_s _ _ (by omega) (by omega)]
    have := h8 (8 - N) (Nat.le_refl _)
    rw [show N + (8 - N) = 8 by omega] at this
    exact this
  rw [hT]
  refine ⟨nI N, ?_⟩
  refine lp_cnt (fun i => (nI (cv (mnq s (fun q => Gy D B pl a q + Ty D B pl kd (rm1 s q) q) i)), nI i)) N _ (fun i hi => ?_) ?_ fu_l 0 (by omega) (by unfold fu_l; omega)
  · show lb_X12_layNeeds_64 x1 (nI s) (nI a) h (nI (cv (mnq s (fun q => Gy D B pl a q + Ty D B pl kd (rm1 s q) q) i))) (nI i) = _
    generalize hm : mnq s (fun q => Gy D B pl a q + Ty D B pl kd (rm1 s q) q) i = m
    have hcm := @cv_le m
    have hn0 : ¬ nI s ≤ 0 := nI_nle h0 (by omega)
    unfold lb_X12_layNeeds_64
    rw [hq.2.2.1, if_neg (nI_ge hi (by omega)), m_has (by omega) (by omega), pu_b1]
    by_cases hb : s.testBit i = true
    · have hrl := rm_le s i
      have hg := Ty_good hD hB hN hpl kd (s := rm1 s i) (a := i) (by omega) (Or.inl hi)
      have hy := Yd_g hD (pb_lt hB hpl ha) (hpl i hi)
      have yb := m_yb hq ha (Or.inl hi)
      rw [if_neg (show ¬ i = 8 by omega)] at yb
      have ca := cv_add hy (show Ty D B pl kd (rm1 s i) i ≤ 99 * 9 ∨ 1000000 ≤ Ty D B pl kd (rm1 s i) i by omega)
      have c1 := @cv_le (Yd D (if a = 8 then B else pl a) (pl i))
      have c2 := @cv_le (Ty D B pl kd (rm1 s i) i)
      have c3 := @cv_le (Yd D (if a = 8 then B else pl a) (pl i) + Ty D B pl kd (rm1 s i) i)
      have e9 : 9 * nI (rm1 s i) + nI i = nI (9 * rm1 s i + i) := by
        show nI 9 * nI (rm1 s i) + nI i = _
        rw [nI_mul, nI_add]
      rw [if_pos hb, if_neg (show ¬ (1 : Int32) = 0 by decide), yb, pu_b1, nI_rm (by omega), e9, pu_gn (show 9 * rm1 s i + i < 2304 by omega) (by decide), nI_clamp (by omega), ht i hb, nI_add, show (10000000 : Int32) = nI 10000000 from rfl, m_less _ _ (by decide) (by omega), pu_b1, if_neg hn0, ca, m_less _ _ (by omega) (by omega), pu_b1, pu_lt, ← nI_succ, cv_min, ← hm]
      show some (Sum.inl (_, nI (i + 1))) = some (Sum.inl (nI (cv (if s.testBit i = true then min (mnq s (fun q => Gy D B pl a q + Ty D B pl kd (rm1 s q) q) i) (Gy D B pl a i + Ty D B pl kd (rm1 s i) i) else _)), nI (i + 1)))
      rw [if_pos hb]
      rfl
    · rw [if_neg hb, if_pos rfl, if_neg hn0, show (10000000 : Int32) = nI 10000000 from rfl, m_less _ _ (by omega) (by decide), pu_b1, pu_lt, ← nI_succ, Nat.min_eq_left hcm, ← hm]
      show some (Sum.inl (_, nI (i + 1))) = some (Sum.inl (nI (cv (if s.testBit i = true then _ else mnq s (fun q => Gy D B pl a q + Ty D B pl kd (rm1 s q) q) i)), nI (i + 1)))
      rw [if_neg hb]
  · show lb_X12_layNeeds_64 x1 (nI s) (nI a) h _ (nI N) = _
    unfold lb_X12_layNeeds_64
    rw [hq.2.2.1, if_pos (nI_le (Nat.le_refl _) (by omega))]
/-- an entry for no points -/
theorem m_need0 (hq : mQ h P N B D pl) (x1 a v : Int32) : lp_f (fun t => lb_X12_layNeeds_64 x1 (nI 0) a h t.1 t.2) fu_l (v, 0) = some (v, nI N) := by
  have hN := hq.2.1
  refine lp_cnt (fun i => (v, nI i)) N _ (fun i hi => ?_) ?_ fu_l 0 (by omega) (by unfold fu_l; omega)
  · show lb_X12_layNeeds_64 x1 (nI 0) a h v (nI i) = _
    unfold lb_X12_layNeeds_64
    rw [hq.2.2.1, if_neg (nI_ge hi (by omega)), m_has (by decide) (by omega), pu_b1, Nat.zero_testBit, if_neg (show ¬ false = true by decide), if_pos rfl, if_pos (show nI 0 ≤ 0 by decide), pu_lt, ← nI_succ]
  · show lb_X12_layNeeds_64 x1 (nI 0) a h v (nI N) = _
    unfold lb_X12_layNeeds_64
    rw [hq.2.2.1, if_pos (nI_le (Nat.le_refl _) (by omega))]
theorem m_need14 (hq : mQ h P N B D pl) {kd : Nat} (hk : kd ≤ 1) {s a : Nat} (hs : s < 2 ^ N) (ha : a < N ∨ a = 8) (ht : ∀ q, s.testBit q = true → h.1 63 (9 * rm1 s q + q) = nI (cv (Ty D B pl kd (rm1 s q) q))) : lb_X12_layNeeds_14 (nI kd) (nI s) (nI a) h = some (.inl (nI (a + 1), ph_i h 63 (9 * s + a) (nI (cv (Ty D B pl kd s a))))) := by
  have hN := hq.2.1
  have h2 := p2_le hN
  have e9 : 9 * nI s + nI a = nI (9 * s + a) := by
    show nI 9 * nI s + nI a = _
    rw [nI_mul, nI_add]
  have hga : ∀ {β : Type} {K : Option β}, ga_i (9 * nI s + nI a) 2304 K = K := by
    intro β K
    rw [e9, pu_gn (show 9 * s + a < 2304 by omega) (by decide)]
  have hcl : (9 * nI s + nI a).toNatClampNeg = 9 * s + a := by rw [e9, nI_clamp (by omega)]
  have ha9 : ¬ (9 : Int32) ≤ nI a := nI_ge (b := 9) (by omega) (by decide)
  have yb := m_yb hq ha (Or.inr rfl)
  rw [if_pos rfl] at yb
  have yb : f_X12_yardsBy (nI a) 8 h = _ := yb
  have k1 : nI kd = 1 ↔ kd = 1 := ⟨fun q => nI_inj (show nI kd = nI 1 from q) (by omega) (by decide), fun q => by subst q; rfl⟩
  -- the value, whichever road is taken
  have val : ∀ {β : Type} (K : Int32 → Option β), (if nI s ≤ 0 then (if nI kd = 1 then (bd_1 (f_X12_yardsBy (nI a) 8 h) fun r => bd_1 (lp_f (fun t => lb_X12_layNeeds_64 (nI kd) (nI s) (nI a) h t.1 t.2) fu_l (r, 0)) fun t => K t.1) else (bd_1 (lp_f (fun t => lb_X12_layNeeds_64 (nI kd) (nI s) (nI a) h t.1 t.2) fu_l (0, 0)) fun t => K t.1)) else (bd_1 (lp_f (fun t => lb_X12_layNeeds_64 (nI kd) (nI s) (nI a) h t.1 t.2) fu_l (10000000, 0)) fun t => K t.1)) = K (nI (cv (Ty D B pl kd s a))) := by
    intro β K
    by_cases h0 : s = 0
    · subst h0
      rw [if_pos (show nI 0 ≤ 0 by decide), show Ty D B pl kd 0 a = Hy D B pl kd a from Tl_0 _ _ a]
      unfold Hy
      by_cases hk1 : kd = 1
      · rw [if_pos (k1.mpr hk1), if_pos hk1, yb, pu_b1, m_need0 hq, pu_b1]
      · rw [if_neg (fun q => hk1 (k1.mp q)), if_neg hk1, m_need0 hq, pu_b1]
        rfl
    · obtain ⟨y, hy⟩ := m_need64 hq kd (nI kd) hs (by omega) ha ht
      have hy : lp_f (fun t => lb_X12_layNeeds_64 (nI kd) (nI s) (nI a) h t.1 t.2) fu_l (10000000, 0) = _ := hy
      rw [if_neg (nI_nle (by omega) (by omega)), hy, pu_b1]
  unfold lb_X12_layNeeds_14
  simp only [hga, hcl, pu_lt, ← nI_succ]
  rw [if_neg ha9, hq.2.2.1]
  by_cases haN : a < N
  · rw [if_pos (nI_lt haN (by omega))]
    exact val (β := (Int32 × PH) ⊕ (Int32 × PH)) (fun v => some (Sum.inl (nI (a + 1), ph_i h 63 (9 * s + a) v)))
  · rw [if_neg (nI_nlt (by omega) (by omega)), if_pos (by rw [ha.resolve_left haN]; rfl)]
    exact val (β := (Int32 × PH) ⊕ (Int32 × PH)) (fun v => some (Sum.inl (nI (a + 1), ph_i h 63 (9 * s + a) v)))
theorem m_needs (hq : mQ h P N B D pl) {kd : Nat} (hk : kd ≤ 1) : ∃ g, f_X12_layNeeds (nI kd) h = some ((), g) ∧ (∀ a, a ≠ 63 → g.1 a = h.1 a) ∧ g.2 = h.2 ∧ ∀ s a, s < 2 ^ N → (a < N ∨ a = 8) → g.1 63 (9 * s + a) = nI (cv (Ty D B pl kd s a)) := by
  have hN := hq.2.1
  have h2 := p2_le hN
  have hL : ∃ r, lp_f (fun t => lb_X12_layNeeds_2 (nI kd) t.1 t.2) fu_l (0, h) = some r ∧ ((∀ a, a ≠ 63 → r.2.1 a = h.1 a) ∧ r.2.2 = h.2 ∧ ∀ s a, s < 2 ^ N → (a < N ∨ a = 8) → r.2.1 63 (9 * s + a) = nI (cv (Ty D B pl kd s a))) := by
    refine lp_0 (fun i t => t.1 = nI i ∧ (∀ a, a ≠ 63 → t.2.1 a = h.1 a) ∧ t.2.2 = h.2 ∧ ∀ s a, s < i → (a < N ∨ a = 8) → t.2.1 63 (9 * s + a) = nI (cv (Ty D B pl kd s a))) _ (2 ^ N) (by omega) ?_ ?_ _ ⟨rfl, fun _ _ => rfl, rfl, fun s a hs => by omega⟩
    · rintro i ⟨x, g⟩ hi ⟨e0, e1, e2, e3⟩
      left
      obtain rfl : x = nI i := e0
      have e3 : ∀ s a, s < i → (a < N ∨ a = 8) → g.1 63 (9 * s + a) = nI (cv (Ty D B pl kd s a)) := e3
      have hI : ∃ r, lp_f (fun t => lb_X12_layNeeds_14 (nI kd) (nI i) t.1 t.2) fu_l (0, g) = some r ∧ ((∀ a, a ≠ 63 → r.2.1 a = h.1 a) ∧ r.2.2 = h.2 ∧ ∀ s a, s < i + 1 → (a < N ∨ a = 8) → r.2.1 63 (9 * s + a) = nI (cv (Ty D B pl kd s a))) := by
        refine lp_0 (fun b t => t.1 = nI b ∧ (∀ a, a ≠ 63 → t.2.1 a = h.1 a) ∧ t.2.2 = h.2 ∧ (∀ s a, s < i → (a < N ∨ a = 8) → t.2.1 63 (9 * s + a) = nI (cv (Ty D B pl kd s a))) ∧ ∀ a, a < b → (a < N ∨ a = 8) → t.2.1 63 (9 * i + a) = nI (cv (Ty D B pl kd i a))) _ 9 (by omega) ?_ ?_ _ ⟨rfl, e1, e2, e3, fun a ha => by omega⟩
        · rintro b ⟨y, k⟩ hb ⟨f0, f1, f2, f3, f4⟩
          left
          obtain rfl : y = nI b := f0
          have f1 : ∀ a, a ≠ 63 → k.1 a = h.1 a := f1
          have f3 : ∀ s a, s < i → (a < N ∨ a = 8) → k.1 63 (9 * s + a) = nI (cv (Ty D B pl kd s a)) := f3
          have f4 : ∀ a, a < b → (a < N ∨ a = 8) → k.1 63 (9 * i + a) = nI (cv (Ty D B pl kd i a)) := f4
          have kq : mQ k P N B D pl := mQ_fr hq (f1 53 (by decide)) (f1 54 (by decide)) (by rw [f1 43 (by decide)]) (by rw [f1 43 (by decide)])
          by_cases hbN : b < N ∨ b = 8
          · refine ⟨(nI (b + 1), ph_i k 63 (9 * i + b) (nI (cv (Ty D B pl kd i b)))), ?_, rfl, ?_, f2, ?_, ?_⟩
            · exact m_need14 kq hk hi hbN (fun q hqb => f3 _ q (by have := rm_lt (show i < 4294967296 by omega) hqb; omega) (Or.inl (bit_lt hi hqb)))
            · intro a ha
              show (ph_i k 63 (9 * i + b) _).1 a = _
              rw [pr_ne ha]
              exact f1 a ha
            · intro s a hs ha
              show (ph_i k 63 (9 * i + b) _).1 63 (9 * s + a) = _
              rw [pr_eq, if_neg (by omega)]
              exact f3 s a hs ha
            · intro a ha haN
              show (ph_i k 63 (9 * i + b) _).1 63 (9 * i + a) = _
              rw [pr_eq]
              by_cases hab : a = b
              · subst hab; rw [if_pos rfl]
              · rw [if_neg (by omega)]; exact f4 a (by omega) haN
          · refine ⟨(nI (b + 1), k), ?_, rfl, f1, f2, f3, fun a ha haN => ?_⟩
            · show lb_X12_layNeeds_14 (nI kd) (nI i) (nI b) k = _
              unfold lb_X12_layNeeds_14
              rw [if_neg (show ¬ (9 : Int32) ≤ nI b from nI_ge (b := 9) hb (by decide)), kq.2.2.1, if_neg (nI_nlt (by omega) (by omega)), if_neg (show ¬ nI b = 8 from fun q => hbN (Or.inr (nI_inj (show nI b = nI 8 from q) (by omega) (by decide)))), pu_lt, ← nI_succ]
            · by_cases hab : a = b
              · subst hab; exact absurd haN hbN
              · exact f4 a (by omega) haN
        · rintro ⟨y, k⟩ ⟨f0, f1, f2, f3, f4⟩
          obtain rfl : y = nI 9 := f0
          refine ⟨(nI 9, k), ?_, f1, f2, fun s a hs ha => ?_⟩
          · show lb_X12_layNeeds_14 (nI kd) (nI i) (nI 9) k = _
            unfold lb_X12_layNeeds_14
            rw [if_pos (by decide)]
          · by_cases hsi : s = i
            · subst hsi; exact f4 a (by omega) ha
            · exact f3 s a (by omega) ha
      obtain ⟨r, r1, r2, r3, r4⟩ := hI
      refine ⟨(nI (i + 1), r.2), ?_, rfl, r2, r3, r4⟩
      show lb_X12_layNeeds_2 (nI kd) (nI i) g = _
      unfold lb_X12_layNeeds_2
      rw [show g.1 43 19 = nI N by rw [show g.1 43 = h.1 43 from e1 43 (by decide)]; exact hq.2.2.1, sh_one hN, if_neg (nI_ge hi (by omega)), r1, pu_b1, pu_lt, ← nI_succ]
    · rintro ⟨x, g⟩ ⟨e0, e1, e2, e3⟩
      obtain rfl : x = nI (2 ^ N) := e0
      refine ⟨(nI (2 ^ N), g), ?_, e1, e2, e3⟩
      show lb_X12_layNeeds_2 (nI kd) (nI (2 ^ N)) g = _
      unfold lb_X12_layNeeds_2
      rw [show g.1 43 19 = nI N by rw [show g.1 43 = h.1 43 from e1 43 (by decide)]; exact hq.2.2.1, sh_one hN, if_pos (nI_le (Nat.le_refl _) (by omega))]
  obtain ⟨r, r1, r2⟩ := hL
  refine ⟨r.2, ?_, r2⟩
  unfold f_X12_layNeeds
  rw [r1, pu_b1]
end MQ
