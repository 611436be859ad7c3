/-- bits of small sets -/
theorem bt_t {s p : Nat} (hs : s < 256) (hp : p < 8) : ((nI s >>> (nI p &&& 31)) &&& 1) = if s.testBit p then 1 else 0 := by
  have : ∀ s : Fin 256, ∀ p : Fin 8, ((nI s.1 >>> (nI p.1 &&& 31)) &&& 1) = if s.1.testBit p.1 then 1 else 0 := by decide +kernel
  exact this ⟨s, hs⟩ ⟨p, hp⟩
theorem bt_o {s p : Nat} (hs : s < 256) (hp : p < 8) : (nI s ||| ((1 : Int32) <<< (nI p &&& 31))) = nI (s ||| 2 ^ p) := by
  have : ∀ s : Fin 256, ∀ p : Fin 8, (nI s.1 ||| ((1 : Int32) <<< (nI p.1 &&& 31))) = nI (s.1 ||| 2 ^ p.1) := by decide +kernel
  exact this ⟨s, hs⟩ ⟨p, hp⟩
theorem bt_ol {s p : Nat} (hs : s < 256) (hp : p < 8) : s ||| 2 ^ p < 256 := by
  have h1 : 2 ^ p < 2 ^ 8 := Nat.pow_lt_pow_right (by omega) hp
  exact Nat.or_lt_two_pow (n := 8) hs h1
theorem bt_ot (s p q : Nat) : (s ||| 2 ^ p).testBit q = (s.testBit q || decide (p = q)) := by
  rw [Nat.testBit_or, Nat.testBit_two_pow]
/-- the points that were told -/
def ts (pt : Nat → Nat) : Nat → Nat
  | 0 => 0
  | i + 1 => ts pt i ||| 2 ^ pt i
theorem ts_lt {pt : Nat → Nat} : ∀ {i : Nat}, (∀ j, j < i → pt j < 8) → ts pt i < 256
  | 0, _ => (by decide : 0 < 256)
  | i + 1, h => bt_ol (ts_lt (fun j hj => h j (by omega))) (h i (by omega))
theorem ts_bit {pt : Nat → Nat} {q : Nat} : ∀ {i : Nat}, (ts pt i).testBit q = true ↔ ∃ j, j < i ∧ pt j = q
  | 0 => by
    show (0 : Nat).testBit q = true ↔ _
    rw [Nat.zero_testBit]
    constructor
    · intro h; cases h
    · rintro ⟨j, hj, _⟩; omega
  | i + 1 => by
    show (ts pt i ||| 2 ^ pt i).testBit q = true ↔ _
    rw [bt_ot, Bool.or_eq_true, ts_bit, decide_eq_true_iff]
    constructor
    · rintro (⟨j, h1, h2⟩ | h)
      · exact ⟨j, by omega, h2⟩
      · exact ⟨i, by omega, h⟩
    · rintro ⟨j, h1, h2⟩
      by_cases hj : j = i
      · subst hj; exact Or.inr h2
      · exact Or.inl ⟨j, by omega, h2⟩
/-- may point number i of the row be put on a way -/
def gd (h : PH) (pt : Nat → Nat) (i : Nat) : Bool := (h.1 21 (pt i) == -9) && !(ts pt i).testBit (pt i)
def al (h : PH) (pt : Nat → Nat) : Nat → Bool
  | 0 => true
  | i + 1 => al h pt i && gd h pt i
theorem al_all {h : PH} {pt : Nat → Nat} : ∀ {i : Nat}, al h pt i = true ↔ ∀ j, j < i → gd h pt j = true
  | 0 => ⟨fun _ j hj => by omega, fun _ => rfl⟩
  | i + 1 => by
    show (al h pt i && gd h pt i) = true ↔ _
    rw [Bool.and_eq_true, al_all]
    constructor
    · rintro ⟨h1, h2⟩ j hj
      by_cases hji : j = i
      · subst hji; exact h2
      · exact h1 j (by omega)
    · intro hh
      exact ⟨fun j hj => hh j (by omega), hh i (by omega)⟩
/-- class: the first loop -/
theorem l_ref1 {g : PH} {sp m N : Nat} (pt : Nat → Nat) (hm : m ≤ 6) (hsp : sp + m ≤ 400) (h17 : g.1 17 0 = nI N) (hN : N ≤ 8) (hpt : ∀ j, j < m → pt j < N ∧ g.1 4 (sp + j) = nI (pt j)) : lp_f (fun s => lb_X6_refusalOf_3 (nI sp) (nI m) g s) fu_l 0 = some (.inr (nI m)) := by
  refine lp_cnt (fun i => nI i) m _ (fun i hi => ?_) ?_ fu_l 0 (by omega) (by unfold fu_l; omega)
  · unfold lb_X6_refusalOf_3 f_X6_isPoint
    have h1 : ¬ m ≤ i := by omega
    have h2 := (hpt i hi).1
    have h3 : ¬ N ≤ pt i := by omega
    simp (disch := omega) only [pu_lt, pu_b1, pu_b2, pu_gn, n_0, n_1, n_2, n_3, n_4, n_5, n_6, n_7, n_8, n_9, n_10, n_14, n_20, n_31, n_48, n_59, n_70, n_98, n_99, n_100, n_104, n_200, n_1000, n_1M, n_10M, nI_add, nI_sub, nI_mul, nI_div, nI_clamp, nI_leI, nI_ltI, nI_eq, nI_ng, nI_nl, nI_nlt2, nI_nlt3, and_self, and_true, true_and, and_false, false_and, or_true, true_or, or_false, false_or, if_true, if_false, ↓reduceIte, not_true_eq_false, not_false_eq_true, reduceCtorEq, h1, (hpt i hi).2, h17, h3, Nat.not_lt_zero, Nat.succ_ne_zero]
  · unfold lb_X6_refusalOf_3
    simp (disch := omega) only [pu_lt, pu_b1, pu_b2, pu_gn, n_0, n_1, n_2, n_3, n_4, n_5, n_6, n_7, n_8, n_9, n_10, n_14, n_20, n_31, n_48, n_59, n_70, n_98, n_99, n_100, n_104, n_200, n_1000, n_1M, n_10M, nI_add, nI_sub, nI_mul, nI_div, nI_clamp, nI_leI, nI_ltI, nI_eq, nI_ng, nI_nl, nI_nlt2, nI_nlt3, and_self, and_true, true_and, and_false, false_and, or_true, true_or, or_false, false_or, if_true, if_false, ↓reduceIte, not_true_eq_false, not_false_eq_true, reduceCtorEq, Nat.le_refl]
theorem l_ref1n {g : PH} {sp m N i0 : Nat} (pt : Nat → Nat) (hm : m ≤ 6) (hsp : sp + m ≤ 400) (h17 : g.1 17 0 = nI N) (hN : N ≤ 8) (hi0 : i0 < m) (hpt : ∀ j, j < i0 → pt j < N ∧ g.1 4 (sp + j) = nI (pt j)) (hno : f_X6_isPoint (g.1 4 (sp + i0)) g = some 0) : lp_f (fun s => lb_X6_refusalOf_3 (nI sp) (nI m) g s) fu_l 0 = some (.inl (-1)) := by
  refine lp_cnt (fun i => nI i) i0 _ (fun i hi => ?_) ?_ fu_l 0 (by omega) (by unfold fu_l; omega)
  · unfold lb_X6_refusalOf_3 f_X6_isPoint
    have h1 : ¬ m ≤ i := by omega
    have h2 := (hpt i hi).1
    have h3 : ¬ N ≤ pt i := by omega
    simp (disch := omega) only [pu_lt, pu_b1, pu_b2, pu_gn, n_0, n_1, n_2, n_3, n_4, n_5, n_6, n_7, n_8, n_9, n_10, n_14, n_20, n_31, n_48, n_59, n_70, n_98, n_99, n_100, n_104, n_200, n_1000, n_1M, n_10M, nI_add, nI_sub, nI_mul, nI_div, nI_clamp, nI_leI, nI_ltI, nI_eq, nI_ng, nI_nl, nI_nlt2, nI_nlt3, and_self, and_true, true_and, and_false, false_and, or_true, true_or, or_false, false_or, if_true, if_false, ↓reduceIte, not_true_eq_false, not_false_eq_true, reduceCtorEq, h1, (hpt i hi).2, h17, h3, Nat.not_lt_zero, Nat.succ_ne_zero]
  · unfold lb_X6_refusalOf_3
    have h1 : ¬ m ≤ i0 := by omega
    simp (disch := omega) only [pu_lt, pu_b1, pu_b2, pu_gn, n_0, n_1, n_2, n_3, n_4, n_5, n_6, n_7, n_8, n_9, n_10, n_14, n_20, n_31, n_48, n_59, n_70, n_98, n_99, n_100, n_104, n_200, n_1000, n_1M, n_10M, nI_add, nI_sub, nI_mul, nI_div, nI_clamp, nI_leI, nI_ltI, nI_eq, nI_ng, nI_nl, nI_nlt2, nI_nlt3, and_self, and_true, true_and, and_false, false_and, or_true, true_or, or_false, false_or, if_true, if_false, ↓reduceIte, not_true_eq_false, not_false_eq_true, reduceCtorEq, h1, hno]
theorem l_ref2 {g : PH} {sp m N e : Nat} (pt : Nat → Nat) (hm : m ≤ 6) (he : e ≤ m) (hsp : sp + m ≤ 400) (hN : N ≤ 8) (hpt : ∀ j, j < m → pt j < N ∧ g.1 4 (sp + j) = nI (pt j)) (hg : ∀ j, j < e → gd g pt j = true) {r : Int32 ⊕ (Int32 × Int32)} (hr : lb_X6_refusalOf_36 (nI sp) (nI m) g (nI (ts pt e)) (nI e) = some (.inr r)) : lp_f (fun s => lb_X6_refusalOf_36 (nI sp) (nI m) g s.1 s.2) fu_l (0, 0) = some r := by
  refine lp_cnt (fun i => (nI (ts pt i), nI i)) e _ (fun i hi => ?_) hr fu_l 0 (by omega) (by unfold fu_l; omega)
  · have h1 : ¬ m ≤ i := by omega
    have h2 := (hpt i (by omega)).1
    have h3 := hg i hi
    unfold gd at h3
    rw [Bool.and_eq_true, beq_iff_eq, Bool.not_eq_true'] at h3
    have h4 : ts pt i < 256 := ts_lt (fun j hj => by have := (hpt j (by omega)).1; omega)
    show lb_X6_refusalOf_36 (nI sp) (nI m) g (nI (ts pt i)) (nI i) = _
    unfold lb_X6_refusalOf_36
    rw [if_neg (nI_ge (show i < m by omega) (by omega)), nI_add, pu_gn (show sp + i < 400 by omega) (by decide), nI_clamp (by omega), pu_lt, (hpt i (by omega)).2, pu_gn (show pt i < 8 by omega) (by decide), nI_clamp (by omega), h3.1, if_pos rfl, bt_t h4 (by omega), h3.2, if_pos (show (if false = true then (1 : Int32) else 0) = 0 from rfl), bt_o h4 (by omega), pu_lt, ← nI_succ, pu_lt]
    rfl
theorem s_refOK {g : PH} {sp m N : Nat} (pt : Nat → Nat) (hm : m ≤ 6) (hsp : sp + m ≤ 400) (h17 : g.1 17 0 = nI N) (hN : N ≤ 8) (hpt : ∀ j, j < m → pt j < N ∧ g.1 4 (sp + j) = nI (pt j)) (hg : al g pt m = true) : f_X6_refusalOf (nI sp) (nI m) g = some 0 := by
  unfold f_X6_refusalOf
  rw [l_ref1 pt hm hsp h17 hN hpt, pu_b1]
  show bd_1 (lp_f (fun s => lb_X6_refusalOf_36 (nI sp) (nI m) g s.1 s.2) fu_l (0, 0)) _ = _
  rw [l_ref2 (r := .inr (nI (ts pt m), nI m)) pt hm (Nat.le_refl _) hsp hN hpt (al_all.mp hg) (by unfold lb_X6_refusalOf_36; rw [if_pos (nI_le (Nat.le_refl _) (by omega))]), pu_b1]
  rfl
theorem s_refNo {g : PH} {sp m N : Nat} (pt : Nat → Nat) (hm : m ≤ 6) (hsp : sp + m ≤ 400) (h17 : g.1 17 0 = nI N) (hN : N ≤ 8) (hpt : ∀ j, j < m → pt j < N ∧ g.1 4 (sp + j) = nI (pt j)) (hg : al g pt m = false) : f_X6_refusalOf (nI sp) (nI m) g = some (-3) := by
  have hex : ∃ e, e < m ∧ gd g pt e = false ∧ ∀ j, j < e → gd g pt j = true := by
    have : ∀ i, al g pt i = false → ∃ e, e < i ∧ gd g pt e = false ∧ ∀ j, j < e → gd g pt j = true := by
      intro i
      induction i with
      | zero => intro q; cases q
      | succ i ih =>
        intro q
        cases ha : al g pt i with
        | false =>
          obtain ⟨e, h1, h2⟩ := ih ha
          exact ⟨e, by omega, h2⟩
        | true =>
          have q' : (al g pt i && gd g pt i) = false := q
          rw [ha, Bool.true_and] at q'
          exact ⟨i, by omega, q', al_all.mp ha⟩
    exact this m hg
  obtain ⟨e, he, hbad, hgood⟩ := hex
  unfold f_X6_refusalOf
  rw [l_ref1 pt hm hsp h17 hN hpt, pu_b1]
  show bd_1 (lp_f (fun s => lb_X6_refusalOf_36 (nI sp) (nI m) g s.1 s.2) fu_l (0, 0)) _ = _
  have h2 := (hpt e he).1
  have h4 : ts pt e < 256 := ts_lt (fun j hj => by have := (hpt j (by omega)).1; omega)
  rw [l_ref2 (r := .inl (-3)) pt hm (Nat.le_of_lt he) hsp hN hpt hgood (by
    unfold lb_X6_refusalOf_36
    rw [if_neg (nI_ge he (by omega)), nI_add, pu_gn (show sp + e < 400 by omega) (by decide), nI_clamp (by omega), pu_lt, (hpt e he).2, pu_gn (show pt e < 8 by omega) (by decide), nI_clamp (by omega), bt_t h4 (by omega)]
    unfold gd at hbad
    by_cases hq : g.1 21 (pt e) = -9
    · rw [if_pos hq]
      rw [hq] at hbad
      have : (ts pt e).testBit (pt e) = true := by simpa using hbad
      rw [this, if_neg (by decide)]
    · rw [if_neg hq]), pu_b1]
  rfl
/-- reference: its loop -/
theorem l_mway {h g : PH} {sp m e : Nat} (a b : Int32) (pt : Nat → Nat) (hW : iv_W h) (hP : iv_P h) (hm : m ≤ 6) (he : e ≤ m) (hsp : sp + m ≤ 400) (e43 : g.1 43 = h.1 43) (e57 : g.1 57 = h.1 57) (e60 : g.1 60 = h.1 60) (e61 : g.1 61 = h.1 61) (hpt : ∀ j, j < e → pt j < hv_N h ∧ g.1 69 (sp + j) = nI (pt j)) {r : (Int32 × PH) ⊕ (Int32 × Int32 × Int32 × PH)} (hr : lb_X12_way_112 a b (nI m) (nI sp) (nI (ts pt e)) (if al h pt e then 1 else 0) (nI e) g = some (.inr r)) : lp_f (fun s => lb_X12_way_112 a b (nI m) (nI sp) s.1 s.2.1 s.2.2.1 s.2.2.2) fu_l (0, 1, 0, g) = some r := by
  have hN := hP.1.2.1
  refine lp_cnt (fun i => (nI (ts pt i), (if al h pt i then 1 else 0), nI i, g)) e _ (fun i hi => ?_) hr fu_l 0 (by omega) (by unfold fu_l; omega)
  have h2 := (hpt i hi).1
  have h4 : ts pt i < 256 := ts_lt (fun j hj => by have := (hpt j (by omega)).1; omega)
  have hwo := m_wayOf (g := g) hW hN h2 (by rw [e43]) e57 e60 e61
  have hno : f_X12_noPoint (nI (pt i)) g = some 0 := by
    rcases rg_pt hP (nI (pt i)) with ⟨k, k1, k2, k3, k4, k5⟩ | ⟨k4, k5⟩
    · exact k5 g (by rw [e43])
    · exfalso
      have := k4 h rfl
      unfold f_X6_isPoint at this
      rw [if_neg (nI_pos (by omega)), hP.1.1, if_neg (nI_ge h2 (by omega))] at this
      exact absurd this (by decide)
  show lb_X12_way_112 a b (nI m) (nI sp) (nI (ts pt i)) (if al h pt i then 1 else 0) (nI i) g = _
  unfold lb_X12_way_112 f_X12_hasBit
  rw [if_neg (nI_ge (show i < m by omega) (by omega)), nI_add, pu_gn (show sp + i < 400 by omega) (by decide), nI_clamp (by omega), pu_lt, (hpt i hi).2, hno, pu_b1, if_pos rfl, bt_o h4 (by omega), bt_t h4 (by omega), hwo, ← nI_succ]
  simp only [pu_lt, pu_b1]
  have hal : al h pt (i + 1) = (al h pt i && gd h pt i) := rfl
  rw [hal]
  have hg : gd h pt i = ((h.1 21 (pt i) == -9) && !(ts pt i).testBit (pt i)) := rfl
  cases ha : al h pt i with
  | false =>
    rw [Bool.false_and]
    rfl
  | true =>
    rw [Bool.true_and, hg]
    rw [if_neg (show ¬ (if true = true then (1 : Int32) else 0) = 0 by decide)]
    cases hb : (ts pt i).testBit (pt i) with
    | true =>
      rw [Bool.not_true, Bool.and_false]
      rfl
    | false =>
      rw [Bool.not_false, Bool.and_true, if_neg (show ¬ (if false = true then (1 : Int32) else 0) = 1 by decide), pu_b1, if_pos rfl]
      rcases hW.2.2.2 (pt i) h2 with q | ⟨x, o, ci, a2, m2, k, q1, q2, q3, q4⟩
      · rw [q, if_neg (by decide)]
        rfl
      · obtain ⟨pt2, hpt2⟩ := w_pts q2
        have s1 := hpt2 k q3
        have s2 : pt2 k = pt i := nI_inj (by rw [← s1.2.1]; exact q4) (by omega) (by omega)
        have s3 := s1.2.2.2
        rw [s2] at s3
        have hx := hW.1.2.1
        have s4 : (nI x == (-9 : Int32)) = false := by
          rw [beq_eq_false_iff_ne]
          intro q
          have := nI_ng (show x < 2 ^ 31 by omega) (show 0 < 9 by decide) (show 9 < 2 ^ 31 by decide)
          rw [← this]
          exact q
        rw [s3, if_pos (nI_pos' (by omega)), s4]
        rfl
