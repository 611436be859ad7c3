/-! LEAST CABLE: the class's tables -/
def cQ (h : PH) (P N : Nat) (D : Nat → Nat → Nat) (pl : Nat → Nat) : Prop := cD h P D ∧ N ≤ 8 ∧ h.1 17 0 = nI N ∧ ∀ p, p < N → h.1 18 p = nI (pl p) ∧ pl p < P
theorem cQ_fr {h g : PH} {P N : Nat} {D : Nat → Nat → Nat} {pl : Nat → Nat} (hq : cQ h P N D pl) (e16 : g.1 16 = h.1 16) (e17 : g.1 17 = h.1 17) (e18 : g.1 18 = h.1 18) : cQ g P N D pl := by
  unfold cQ
  rw [e17, e18]
  exact ⟨cD_fr hq.1 e16, hq.2⟩
/-- the class's yards: 1000000 at the most -/
def ck (v : Nat) : Nat := min v 1000000
theorem ck_b (v : Nat) : ck v ≤ 1000000 := Nat.min_le_right _ _
theorem ck_s {v : Nat} (h : v ≤ 1000000) : ck v = v := Nat.min_eq_left h
theorem ck_f {v : Nat} (h : 1000000 ≤ v) : ck v = 1000000 := Nat.min_eq_right h
theorem ck_lt {v : Nat} : ck v < 1000000 ↔ v < 1000000 := by
  unfold ck
  omega
theorem ck_mono {v u : Nat} (h : v ≤ u) : ck v ≤ ck u := by
  unfold ck
  omega
theorem ck_min {m G T : Nat} : ck (min m (G + T)) = min (ck m) (G + ck T) := by
  unfold ck
  omega
theorem ck_sum {G T V : Nat} (hV : V < 1000000) : G + ck T = ck V ↔ G + T = V := by
  unfold ck
  omega
abbrev ac (a : Nat) : Int32 := if a = 8 then -1 else nI a
/-- gaps and starts, reckoned -/
def cT (h : PH) (N : Nat) (D : Nat → Nat → Nat) (B : Nat) (pl : Nat → Nat) : Prop := (∀ p q, p < N → q < N → h.1 24 (8 * p + q) = nI (Gy D B pl p q)) ∧ ∀ q, q < N → h.1 25 q = nI (Gy D B pl 8 q)
section CQ
variable {h : PH} {P N : Nat} {D : Nat → Nat → Nat} {pl : Nat → Nat}
theorem c_measure (hq : cQ h P N D pl) : ∃ g, f_X0_measure h = some ((), g) ∧ (∀ a, a ≠ 24 → g.1 a = h.1 a) ∧ g.2 = h.2 ∧ ∀ p q, p < N → q < N → g.1 24 (8 * p + q) = nI (Yd D (pl p) (pl q)) := by
  have hN := hq.2.1
  have hL : ∃ r, lp_f (fun t => lb_X0_measure_2 t.1 t.2) fu_l (0, h) = some r ∧ ((∀ a, a ≠ 24 → r.2.1 a = h.1 a) ∧ r.2.2 = h.2 ∧ ∀ p q, p < N → q < N → r.2.1 24 (8 * p + q) = nI (Yd D (pl p) (pl q))) := by
    refine lp_0 (fun i t => t.1 = nI i ∧ (∀ a, a ≠ 24 → t.2.1 a = h.1 a) ∧ t.2.2 = h.2 ∧ ∀ p q, p < i → q < N → t.2.1 24 (8 * p + q) = nI (Yd D (pl p) (pl q))) _ N (by omega) ?_ ?_ _ ⟨rfl, fun _ _ => rfl, rfl, fun p q hp => by omega⟩
    · rintro i ⟨x, g⟩ hi ⟨e0, e1, e2, e3⟩
      left
      obtain rfl : x = nI i := e0
      have e1 : ∀ a, a ≠ 24 → g.1 a = h.1 a := e1
      have e3 : ∀ p q, p < i → q < N → g.1 24 (8 * p + q) = nI (Yd D (pl p) (pl q)) := e3
      have hI : ∃ r, lp_f (fun t => lb_X0_measure_13 (nI i) t.1 t.2) fu_l (0, g) = some r ∧ ((∀ a, a ≠ 24 → r.2.1 a = h.1 a) ∧ r.2.2 = h.2 ∧ ∀ p q, p < i + 1 → q < N → r.2.1 24 (8 * p + q) = nI (Yd D (pl p) (pl q))) := by
        refine lp_0 (fun b t => t.1 = nI b ∧ (∀ a, a ≠ 24 → t.2.1 a = h.1 a) ∧ t.2.2 = h.2 ∧ (∀ p q, p < i → q < N → t.2.1 24 (8 * p + q) = nI (Yd D (pl p) (pl q))) ∧ ∀ q, q < b → t.2.1 24 (8 * i + q) = nI (Yd D (pl i) (pl q))) _ N (by omega) ?_ ?_ _ ⟨rfl, e1, e2, e3, fun a ha => by omega⟩
        · rintro b ⟨y, k⟩ hb ⟨f0, f1, f2, f3, f4⟩
          left
          obtain rfl : y = nI b := f0
          have f1 : ∀ a, a ≠ 24 → k.1 a = h.1 a := f1
          have kq : cQ k P N D pl := cQ_fr hq (f1 16 (by decide)) (f1 17 (by decide)) (f1 18 (by decide))
          refine ⟨(nI (b + 1), ph_i k 24 (8 * i + b) (nI (Yd D (pl i) (pl b)))), ?_, rfl, ?_, f2, ?_, ?_⟩
          · show lb_X0_measure_13 (nI i) (nI b) k = _
            unfold lb_X0_measure_13
            rw [kq.2.2.1, if_neg (nI_ge hb (by omega)), pu_gn (show i < 8 by omega) (by decide), pu_gn (show b < 8 by omega) (by decide), nI_clamp (by omega), nI_clamp (by omega), (kq.2.2.2 i hi).1, (kq.2.2.2 b hb).1, c_yf kq.1 (kq.2.2.2 i hi).2 (kq.2.2.2 b hb).2, pu_b1, x8, pu_gn (show 8 * i + b < 64 by omega) (by decide), nI_clamp (by omega), pu_lt, pu_lt, ← nI_succ]
          · intro a ha
            show (ph_i k 24 (8 * i + b) _).1 a = _
            rw [pr_ne ha]
            exact f1 a ha
          · intro p q hp hqN
            show (ph_i k 24 (8 * i + b) _).1 24 (8 * p + q) = _
            rw [pr_eq, if_neg (by omega)]
            exact f3 p q hp hqN
          · intro q hqb
            show (ph_i k 24 (8 * i + b) _).1 24 (8 * i + q) = _
            rw [pr_eq]
            by_cases hqe : q = b
            · subst hqe; rw [if_pos rfl]
            · rw [if_neg (by omega)]; exact f4 q (by omega)
        · rintro ⟨y, k⟩ ⟨f0, f1, f2, f3, f4⟩
          obtain rfl : y = nI N := f0
          have f1 : ∀ a, a ≠ 24 → k.1 a = h.1 a := f1
          refine ⟨(nI N, k), ?_, f1, f2, fun p q hp hqN => ?_⟩
          · show lb_X0_measure_13 (nI i) (nI N) k = _
            unfold lb_X0_measure_13
            rw [f1 17 (by decide), hq.2.2.1, if_pos (nI_le (Nat.le_refl _) (by omega))]
          · by_cases hpi : p = i
            · subst hpi; exact f4 q hqN
            · exact f3 p q (by omega) hqN
      obtain ⟨r, r1, r2, r3, r4⟩ := hI
      refine ⟨(nI (i + 1), r.2), ?_, rfl, r2, r3, r4⟩
      show lb_X0_measure_2 (nI i) g = _
      unfold lb_X0_measure_2
      rw [e1 17 (by decide), hq.2.2.1, if_neg (nI_ge hi (by omega)), r1, pu_b1, pu_lt, ← nI_succ]
    · rintro ⟨x, g⟩ ⟨e0, e1, e2, e3⟩
      obtain rfl : x = nI N := e0
      have e1 : ∀ a, a ≠ 24 → g.1 a = h.1 a := e1
      refine ⟨(nI N, g), ?_, e1, e2, e3⟩
      show lb_X0_measure_2 (nI N) g = _
      unfold lb_X0_measure_2
      rw [e1 17 (by decide), hq.2.2.1, if_pos (nI_le (Nat.le_refl _) (by omega))]
  obtain ⟨r, r1, r2⟩ := hL
  refine ⟨r.2, ?_, r2⟩
  unfold f_X0_measure
  rw [r1, pu_b1]
theorem c_start (hq : cQ h P N D pl) {c : Nat} (hc : c < P) : ∃ g, f_X0_startFrom (nI c) h = some ((), g) ∧ (∀ a, a ≠ 25 → g.1 a = h.1 a) ∧ g.2 = h.2 ∧ ∀ p, p < N → g.1 25 p = nI (Yd D c (pl p)) := by
  have hN := hq.2.1
  have hL : ∃ r, lp_f (fun t => lb_X0_startFrom_3 (nI c) t.1 t.2) fu_l (0, h) = some r ∧ ((∀ a, a ≠ 25 → r.2.1 a = h.1 a) ∧ r.2.2 = h.2 ∧ ∀ p, p < N → r.2.1 25 p = nI (Yd D c (pl p))) := by
    refine lp_0 (fun i t => t.1 = nI i ∧ (∀ a, a ≠ 25 → t.2.1 a = h.1 a) ∧ t.2.2 = h.2 ∧ ∀ p, p < i → t.2.1 25 p = nI (Yd D c (pl p))) _ N (by omega) ?_ ?_ _ ⟨rfl, fun _ _ => rfl, rfl, fun p hp => by omega⟩
    · rintro b ⟨y, k⟩ hb ⟨f0, f1, f2, f3⟩
      left
      obtain rfl : y = nI b := f0
      have f1 : ∀ a, a ≠ 25 → k.1 a = h.1 a := f1
      have kq : cQ k P N D pl := cQ_fr hq (f1 16 (by decide)) (f1 17 (by decide)) (f1 18 (by decide))
      refine ⟨(nI (b + 1), ph_i k 25 b (nI (Yd D c (pl b)))), ?_, rfl, ?_, f2, ?_⟩
      · show lb_X0_startFrom_3 (nI c) (nI b) k = _
        unfold lb_X0_startFrom_3
        rw [kq.2.2.1, if_neg (nI_ge hb (by omega)), pu_gn (show b < 8 by omega) (by decide), nI_clamp (by omega), (kq.2.2.2 b hb).1, c_yf kq.1 hc (kq.2.2.2 b hb).2, pu_b1, pu_gn (show b < 8 by omega) (by decide), pu_lt, pu_lt, ← nI_succ]
      · intro a ha
        show (ph_i k 25 b _).1 a = _
        rw [pr_ne ha]
        exact f1 a ha
      · intro q hqb
        show (ph_i k 25 b _).1 25 q = _
        rw [pr_eq]
        by_cases hqe : q = b
        · subst hqe; rw [if_pos rfl]
        · rw [if_neg hqe]; exact f3 q (by omega)
    · rintro ⟨y, k⟩ ⟨f0, f1, f2, f3⟩
      obtain rfl : y = nI N := f0
      have f1 : ∀ a, a ≠ 25 → k.1 a = h.1 a := f1
      refine ⟨(nI N, k), ?_, f1, f2, f3⟩
      show lb_X0_startFrom_3 (nI c) (nI N) k = _
      unfold lb_X0_startFrom_3
      rw [f1 17 (by decide), hq.2.2.1, if_pos (nI_le (Nat.le_refl _) (by omega))]
  obtain ⟨r, r1, r2⟩ := hL
  refine ⟨r.2, ?_, r2⟩
  unfold f_X0_startFrom
  rw [r1, pu_b1]
theorem c_over {B kd : Nat} (hN : N ≤ 8) (ht : cT h N D B pl) {s a q : Nat} (hs : s < 256) (ha : a < N ∨ a = 8) (hqN : q < N) (hr : h.1 26 (8 * rm1 s q + q) = nI (ck (Ty D B pl kd (rm1 s q) q))) : f_X0_over (ac a) (nI q) (nI s) h = some (nI (Gy D B pl a q + ck (Ty D B pl kd (rm1 s q) q))) := by
  have hrl := rm_le s q
  unfold f_X0_over
  rw [nI_rm (by omega), x8]
  by_cases h8 : a = 8
  · subst h8
    rw [if_pos (show ac 8 = -1 from rfl), pu_gn (show q < 8 by omega) (by decide), pu_lt, pu_gn (show 8 * rm1 s q + q < 2048 by omega) (by decide), nI_clamp (by omega), nI_clamp (show 8 * rm1 s q + q < 2 ^ 31 by omega), hr, ht.2 q hqN, nI_add]
  · have haN := ha.resolve_right h8
    rw [show ac a = nI a from if_neg h8, if_neg (nI_n1 (by omega)), x8, pu_gn (show 8 * a + q < 64 by omega) (by decide), pu_lt, pu_gn (show 8 * rm1 s q + q < 2048 by omega) (by decide), nI_clamp (by omega), nI_clamp (show 8 * rm1 s q + q < 2 ^ 31 by omega), hr, ht.1 a q haN hqN, nI_add]
theorem c_least {B kd : Nat} (hD : ∀ a b, a < P → b < P → D a b < 100000 ∨ D a b = 1000000) (hB : B < P) (hpl : ∀ p, p < N → pl p < P) (hN : N ≤ 8) (ht : cT h N D B pl) {s a : Nat} (hs : s < 2 ^ N) (h0 : s ≠ 0) (ha : a < N ∨ a = 8) (hr : ∀ q, s.testBit q = true → h.1 26 (8 * rm1 s q + q) = nI (ck (Ty D B pl kd (rm1 s q) q))) : f_X0_leastFrom (ac a) (nI s) h = some (nI (ck (Ty D B pl kd s a))) := by
  have h2 := p2_le hN
  have hb8 : ∀ q, s.testBit q = true → q < N := fun q hq => bit_lt hs hq
  have hT : Ty D B pl kd s a = mnq s (fun q => Gy D B pl a q + Ty D B pl kd (rm1 s q) q) 8 := Tl_s _ _ (by omega) h0 a
  rw [hT]
  have hL : lp_f (fun t => lb_X0_leastFrom_6 (ac a) (nI s) h t.1 t.2) fu_l (1000000, 0) = some (nI (ck (mnq s (fun q => Gy D B pl a q + Ty D B pl kd (rm1 s q) q) 8)), nI 8) := by
    refine lp_cnt (fun i => (nI (ck (mnq s (fun q => Gy D B pl a q + Ty D B pl kd (rm1 s q) q) i)), nI i)) 8 _ (fun i hi => ?_) ?_ fu_l 0 (by omega) (by unfold fu_l; omega)
    · show lb_X0_leastFrom_6 (ac a) (nI s) h (nI (ck (mnq s (fun q => Gy D B pl a q + Ty D B pl kd (rm1 s q) q) i))) (nI i) = _
      have em : mnq s (fun q => Gy D B pl a q + Ty D B pl kd (rm1 s q) q) (i + 1) = if s.testBit i = true then min (mnq s (fun q => Gy D B pl a q + Ty D B pl kd (rm1 s q) q) i) (Gy D B pl a i + Ty D B pl kd (rm1 s i) i) else mnq s (fun q => Gy D B pl a q + Ty D B pl kd (rm1 s q) q) i := rfl
      generalize mnq s (fun q => Gy D B pl a q + Ty D B pl kd (rm1 s q) q) i = m at *
      unfold lb_X0_leastFrom_6
      rw [if_neg (show ¬ (8 : Int32) ≤ nI i from nI_ge (b := 8) hi (by decide)), bt_t (by omega) hi, em]
      by_cases hb : s.testBit i = true
      · rw [if_pos hb, if_pos hb, if_neg (show ¬ (1 : Int32) = 0 by decide), c_over hN ht (by omega) ha (hb8 i hb) (hr i hb), pu_b1, ck_min]
        have g1 := Yd_g hD (pb_lt hB hpl ha) (hpl i (hb8 i hb))
        have g2 := ck_b (Ty D B pl kd (rm1 s i) i)
        have b1 := ck_b m
        have g3 : Gy D B pl a i + ck (Ty D B pl kd (rm1 s i) i) < 2 ^ 31 := by
          show Yd D (if a = 8 then B else pl a) (pl i) + ck (Ty D B pl kd (rm1 s i) i) < _
          omega
        generalize Gy D B pl a i + ck (Ty D B pl kd (rm1 s i) i) = v at *
        generalize ck m = u at *
        by_cases hv : v < u
        · rw [if_pos (nI_lt hv (by omega)), pu_lt, pu_lt, ← nI_succ, Nat.min_eq_right (by omega)]
        · rw [if_neg (nI_nlt (by omega) g3), pu_lt, pu_lt, ← nI_succ, Nat.min_eq_left (by omega)]
      · rw [if_neg hb, if_neg hb, if_pos rfl, pu_lt, ← nI_succ]
    · show lb_X0_leastFrom_6 (ac a) (nI s) h _ (nI 8) = _
      unfold lb_X0_leastFrom_6
      rw [if_pos (by decide)]
  unfold f_X0_leastFrom
  rw [hL, pu_b1]
/-- subsets -/
abbrev sub (s w : Nat) : Prop := ∀ p, s.testBit p = true → w.testBit p = true
theorem sub_dif {s w : Nat} (hs : s < 256) : dif s w = 0 ↔ sub s w := by
  constructor
  · intro h p hp
    have h1 := dif_bit (s := s) (t := w) (by omega) p
    rw [h, Nat.zero_testBit, hp, Bool.true_and] at h1
    cases hw : w.testBit p with
    | true => rfl
    | false => rw [hw] at h1; cases h1
  · intro h
    apply set_0
    intro p
    rw [dif_bit (by omega)]
    cases hp : s.testBit p with
    | false => rfl
    | true => rw [h p hp]; rfl
/-- the rests of orders within w, reckoned for sets below i -/
def cW (h : PH) (D : Nat → Nat → Nat) (B : Nat) (pl : Nat → Nat) (kd w i : Nat) : Prop := ∀ s p, s < i → sub s w → w.testBit p = true → s.testBit p = false → h.1 26 (8 * s + p) = nI (ck (Ty D B pl kd s p))
theorem cW_at {B kd w i s : Nat} (hw : cW h D B pl kd w i) (hs : s < 256) (hi : s ≤ i) (hsw : sub s w) : ∀ q, s.testBit q = true → h.1 26 (8 * rm1 s q + q) = nI (ck (Ty D B pl kd (rm1 s q) q)) := by
  intro q hq
  have hlt := rm_lt (show s < 4294967296 by omega) hq
  refine hw (rm1 s q) q (by omega) (fun p hp => hsw p ((rm_bit (by omega) p).mp hp).1) (hsw q hq) ?_
  cases hz : (rm1 s q).testBit q with
  | false => rfl
  | true => exact absurd rfl ((rm_bit (show s < 4294967296 by omega) q).mp hz).2
theorem c_rests {B kd w : Nat} (hn : nD P D) (hB : B < P) (hpl : ∀ p, p < N → pl p < P) (hN : N ≤ 8) (ht : cT h N D B pl) (hw : w < 2 ^ N) (hk : kd ≤ 1) : ∃ g, f_X0_reckonRests (nI w) (nI kd) h = some ((), g) ∧ (∀ a, a ≠ 26 → g.1 a = h.1 a) ∧ g.2 = h.2 ∧ cW g D B pl kd w w := by
  have h2 := p2_le hN
  have hwb : ∀ p, w.testBit p = true → p < N := fun p hp => bit_lt hw hp
  have hL : ∃ r, lp_f (fun t => lb_X0_reckonRests_2 (nI w) (nI kd) t.1 t.2) fu_l (0, h) = some r ∧ ((∀ a, a ≠ 26 → r.2.1 a = h.1 a) ∧ r.2.2 = h.2 ∧ cW r.2 D B pl kd w w) := by
    refine lp_0 (fun i t => t.1 = nI i ∧ (∀ a, a ≠ 26 → t.2.1 a = h.1 a) ∧ t.2.2 = h.2 ∧ cW t.2 D B pl kd w i) _ w (by omega) ?_ ?_ _ ⟨rfl, fun _ _ => rfl, rfl, fun s p hs => by omega⟩
    · rintro i ⟨x, g⟩ hi ⟨e0, e1, e2, e3⟩
      left
      obtain rfl : x = nI i := e0
      have e1 : ∀ a, a ≠ 26 → g.1 a = h.1 a := e1
      have e3 : cW g D B pl kd w i := e3
      have hsd := sub_dif (s := i) (w := w) (by omega)
      by_cases hsub : sub i w
      · have hI : ∃ r, lp_f (fun t => lb_X0_reckonRestsOf_3 (nI i) (nI (dif w i)) (nI kd) t.1 t.2) fu_l (0, g) = some r ∧ ((∀ a, a ≠ 26 → r.2.1 a = h.1 a) ∧ r.2.2 = h.2 ∧ cW r.2 D B pl kd w (i + 1)) := by
          refine lp_0 (fun b t => t.1 = nI b ∧ (∀ a, a ≠ 26 → t.2.1 a = h.1 a) ∧ t.2.2 = h.2 ∧ cW t.2 D B pl kd w i ∧ ∀ p, p < b → w.testBit p = true → i.testBit p = false → t.2.1 26 (8 * i + p) = nI (ck (Ty D B pl kd i p))) _ 8 (by omega) ?_ ?_ _ ⟨rfl, e1, e2, e3, fun a ha => by omega⟩
          · rintro b ⟨y, k⟩ hb ⟨f0, f1, f2, f3, f4⟩
            left
            obtain rfl : y = nI b := f0
            have f1 : ∀ a, a ≠ 26 → k.1 a = h.1 a := f1
            have f3 : cW k D B pl kd w i := f3
            have kt : cT k N D B pl := by
              unfold cT
              rw [f1 24 (by decide), f1 25 (by decide)]
              exact ht
            have hdl := dif_le w i
            have hdb := dif_bit (s := w) (t := i) (by omega) b
            by_cases hbit : (dif w i).testBit b = true
            · rw [hbit] at hdb
              have hb2 := (Bool.and_eq_true _ _).mp hdb.symm
              have wb := hb2.1
              have ib : i.testBit b = false := by simpa using hb2.2
              have bN := hwb b wb
              have fin : ∀ {V : Int32}, V = nI (ck (Ty D B pl kd i b)) → ∃ t : Int32 × PH, (some (Sum.inl (nI (b + 1), ph_i k 26 (8 * i + b) V)) : Option ((Int32 × PH) ⊕ (Int32 × PH))) = some (.inl t) ∧ t.1 = nI (b + 1) ∧ (∀ a, a ≠ 26 → t.2.1 a = h.1 a) ∧ t.2.2 = h.2 ∧ cW t.2 D B pl kd w i ∧ ∀ p, p < b + 1 → w.testBit p = true → i.testBit p = false → t.2.1 26 (8 * i + p) = nI (ck (Ty D B pl kd i p)) := by
                intro V hV
                refine ⟨_, rfl, rfl, ?_, f2, ?_, ?_⟩
                · intro a ha
                  show (ph_i k 26 (8 * i + b) _).1 a = _
                  rw [pr_ne ha]
                  exact f1 a ha
                · intro s p hs hsw hwp hsp
                  show (ph_i k 26 (8 * i + b) _).1 26 (8 * s + p) = _
                  have := hwb p hwp
                  rw [pr_eq, if_neg (by omega)]
                  exact f3 s p hs hsw hwp hsp
                · intro p hp hwp hip
                  show (ph_i k 26 (8 * i + b) _).1 26 (8 * i + p) = _
                  rw [pr_eq]
                  by_cases hpb : p = b
                  · subst hpb; rw [if_pos rfl, hV]
                  · rw [if_neg (by omega)]; exact f4 p (by omega) hwp hip
              by_cases hi0 : i = 0
              · subst hi0
                have hh : f_X0_homeFrom (nI b) (nI kd) k = some (nI (ck (Ty D B pl kd 0 b))) := by
                  have hH : Hy D B pl kd b ≤ 1000000 := by
                    unfold Hy
                    split
                    · have := Yd_g hn.1 (pb_lt hB hpl (Or.inl bN)) hB
                      omega
                    · exact Nat.zero_le _
                  rw [show Ty D B pl kd 0 b = Hy D B pl kd b from Tl_0 _ _ b, ck_s hH]
                  unfold f_X0_homeFrom Hy
                  by_cases hk1 : kd = 1
                  · subst hk1
                    rw [if_neg (show ¬ nI 1 = 0 by decide), pu_gn hb (by decide), nI_clamp (by omega), kt.2 b bN, if_pos rfl, if_neg (show ¬ b = 8 by omega)]
                    unfold Gy
                    rw [if_pos rfl, Yd_sym hn hB (hpl b bN)]
                  · rw [if_pos (show nI kd = 0 by rw [show kd = 0 by omega]; rfl), if_neg hk1]
                    rfl
                obtain ⟨t, t1, t2⟩ := fin (V := nI (ck (Ty D B pl kd 0 b))) rfl
                refine ⟨t, ?_, t2⟩
                show lb_X0_reckonRestsOf_3 (nI 0) (nI (dif w 0)) (nI kd) (nI b) k = _
                unfold lb_X0_reckonRestsOf_3
                rw [if_neg (show ¬ (8 : Int32) ≤ nI b from nI_ge (b := 8) hb (by decide)), bt_t (by omega) hb, hbit, if_pos rfl, if_neg (show ¬ (1 : Int32) = 0 by decide), if_pos (show nI 0 = 0 from rfl), hh, pu_b1, x8, pu_gn (show 8 * 0 + b < 2048 by omega) (by decide), nI_clamp (by omega), pu_lt, pu_lt, ← nI_succ]
                exact t1
              · have hl := c_least (h := k) (a := b) hn.1 hB hpl hN kt (show i < 2 ^ N by omega) hi0 (Or.inl bN) (cW_at f3 (by omega) (Nat.le_refl i) hsub)
                rw [show ac b = nI b from if_neg (by omega)] at hl
                obtain ⟨t, t1, t2⟩ := fin (V := nI (ck (Ty D B pl kd i b))) rfl
                refine ⟨t, ?_, t2⟩
                show lb_X0_reckonRestsOf_3 (nI i) (nI (dif w i)) (nI kd) (nI b) k = _
                unfold lb_X0_reckonRestsOf_3
                rw [if_neg (show ¬ (8 : Int32) ≤ nI b from nI_ge (b := 8) hb (by decide)), bt_t (by omega) hb, hbit, if_pos rfl, if_neg (show ¬ (1 : Int32) = 0 by decide), if_neg (nI_ne0 (by omega) (by omega)), hl, pu_b1, x8, pu_gn (show 8 * i + b < 2048 by omega) (by decide), nI_clamp (by omega), pu_lt, pu_lt, ← nI_succ]
                exact t1
            · refine ⟨(nI (b + 1), k), ?_, rfl, f1, f2, f3, fun p hp hwp hip => ?_⟩
              · show lb_X0_reckonRestsOf_3 (nI i) (nI (dif w i)) (nI kd) (nI b) k = _
                unfold lb_X0_reckonRestsOf_3
                rw [if_neg (show ¬ (8 : Int32) ≤ nI b from nI_ge (b := 8) hb (by decide)), bt_t (by omega) hb, if_neg hbit, if_pos rfl, pu_lt, ← nI_succ]
              · by_cases hpb : p = b
                · subst hpb
                  rw [hwp, hip] at hdb
                  exact absurd hdb hbit
                · exact f4 p (by omega) hwp hip
          · rintro ⟨y, k⟩ ⟨f0, f1, f2, f3, f4⟩
            obtain rfl : y = nI 8 := f0
            refine ⟨(nI 8, k), ?_, f1, f2, fun s p hs hsw hwp hsp => ?_⟩
            · show lb_X0_reckonRestsOf_3 (nI i) (nI (dif w i)) (nI kd) (nI 8) k = _
              unfold lb_X0_reckonRestsOf_3
              rw [if_pos (by decide)]
            · by_cases hsi : s = i
              · subst hsi; exact f4 p (by have := hwb p hwp; omega) hwp hsp
              · exact f3 s p (by omega) hsw hwp hsp
        obtain ⟨r, r1, r2, r3, r4⟩ := hI
        refine ⟨(nI (i + 1), r.2), ?_, rfl, r2, r3, r4⟩
        show lb_X0_reckonRests_2 (nI w) (nI kd) (nI i) g = _
        unfold lb_X0_reckonRests_2 f_X0_reckonRestsOf
        rw [if_neg (nI_ge hi (by omega)), nI_dif, hsd.mpr hsub, if_pos (show nI 0 = 0 from rfl), nI_dif, r1, pu_b1, pu_b2, pu_lt, ← nI_succ]
      · refine ⟨(nI (i + 1), g), ?_, rfl, e1, e2, fun s p hs hsw hwp hsp => ?_⟩
        · have hdl := dif_le i w
          have hd0 : dif i w ≠ 0 := fun q => hsub (hsd.mp q)
          show lb_X0_reckonRests_2 (nI w) (nI kd) (nI i) g = _
          unfold lb_X0_reckonRests_2
          rw [if_neg (nI_ge hi (by omega)), nI_dif, if_neg (nI_ne0 (by omega) (by omega)), pu_lt, ← nI_succ]
        · by_cases hsi : s = i
          · subst hsi; exact absurd hsw hsub
          · exact e3 s p (by omega) hsw hwp hsp
    · rintro ⟨x, g⟩ ⟨e0, e1, e2, e3⟩
      obtain rfl : x = nI w := e0
      refine ⟨(nI w, g), ?_, e1, e2, e3⟩
      show lb_X0_reckonRests_2 (nI w) (nI kd) (nI w) g = _
      unfold lb_X0_reckonRests_2
      rw [if_pos (nI_le (Nat.le_refl _) (by omega))]
  obtain ⟨r, r1, r2⟩ := hL
  refine ⟨r.2, ?_, r2⟩
  unfold f_X0_reckonRests
  rw [r1, pu_b1]
end CQ
/-- gaps, starts from the box, and rests -/
theorem c_orders {h : PH} {P N B kd w : Nat} {D : Nat → Nat → Nat} {pl : Nat → Nat} (hq : cQ h P N D pl) (hn : nD P D) (h10 : h.1 10 1 = nI B) (hB : B < P) (hw : w < 2 ^ N) (hk : kd ≤ 1) : ∃ g, f_X11_reckonOrders (nI w) (nI kd) h = some ((), g) ∧ (∀ a, a ≠ 24 → a ≠ 25 → a ≠ 26 → g.1 a = h.1 a) ∧ g.2 = h.2 ∧ cT g N D B pl ∧ cW g D B pl kd w w := by
  have hN := hq.2.1
  have hpl : ∀ p, p < N → pl p < P := fun p hp => (hq.2.2.2 p hp).2
  obtain ⟨g1, a1, a2, a3, a4⟩ := c_measure hq
  have q1 : cQ g1 P N D pl := cQ_fr hq (a2 16 (by decide)) (a2 17 (by decide)) (a2 18 (by decide))
  obtain ⟨g2, b1, b2, b3, b4⟩ := c_start q1 hB
  have t2 : cT g2 N D B pl := by
    refine ⟨fun p q hp hqN => ?_, fun q hqN => ?_⟩
    · rw [b2 24 (by decide), a4 p q hp hqN]
      unfold Gy
      rw [if_neg (by omega)]
    · rw [b4 q hqN]
      unfold Gy
      rw [if_pos rfl]
  obtain ⟨g3, c1, c2, c3, c4⟩ := c_rests hn hB hpl hN t2 hw hk
  refine ⟨g3, ?_, fun a x1 x2 x3 => by rw [c2 a x3, b2 a x2, a2 a x1], by rw [c3, b3, a3], ?_, c4⟩
  · unfold f_X11_reckonOrders
    rw [a1, pu_b2, a2 10 (by decide), h10, b1, pu_b2]
    by_cases hk1 : kd = 1
    · subst hk1
      rw [if_pos (show nI 1 = 1 from rfl)]
      have c1 : f_X0_reckonRests (nI w) 1 g2 = some ((), g3) := c1
      rw [c1, pu_b2]
    · obtain rfl : kd = 0 := by omega
      rw [if_neg (show ¬ nI 0 = 1 by decide)]
      have c1 : f_X0_reckonRests (nI w) 0 g2 = some ((), g3) := c1
      rw [c1, pu_b2]
  · unfold cT
    rw [c2 24 (by decide), c2 25 (by decide)]
    exact t2
