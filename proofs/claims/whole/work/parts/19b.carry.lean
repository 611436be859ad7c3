/-! WHAT PIECES CARRY, in both; shares in least terms -/
theorem pr_ll (h : PH) (k j i : Nat) (v : Int64) : (ph_l h k j v).2.1 k i = if i = j then v else h.2.1 k i := by
  show up_R h.2.1 k (vp_updL (h.2.1 k) j v) k i = _
  rw [up_R_s]
  rfl
theorem pr_ln {h : PH} {k j a : Nat} {v : Int64} (ha : a ≠ k) : (ph_l h k j v).2.1 a = h.2.1 a := by
  show up_R h.2.1 k (vp_updL (h.2.1 k) j v) a = _
  rw [up_R_n _ _ ha]
theorem inv_l {n : Nat} {h g : PH} (hi : Inv n h) (e : g.1 = h.1) (e2 : g.2.2 = h.2.2) : Inv (n + 1) g :=
  inv_frame hi (fun a _ => by rw [e]) (fun j _ => by rw [e]) (by rw [e]) (by rw [e]; exact hi.2.1.1) e2
theorem gcd_step {a b : Nat} : Nat.gcd b (a % b) = Nat.gcd a b := by
  rw [Nat.gcd_comm b, ← Nat.gcd_rec, Nat.gcd_comm]
theorem half_mod {b r : Nat} (h0 : 0 < r) (h : r < b) : 2 * (b % r) < b := by
  have h1 := Nat.mod_lt b h0
  have h2 : b % r ≤ b - r := by
    rw [Nat.mod_eq_sub_mod (Nat.le_of_lt h)]
    exact Nat.mod_le _ _
  omega
theorem m_eu1 (x0 x2 : Int64) (x4 : Int32) (h : PH) {a b : Nat} (ha : a < 2 ^ 62) (hb : b < 2 ^ 62) (h0 : 0 < b) : lb_X12_told_17 x0 x2 x4 h (lN a) (lN b) = some (.inl (lN b, lN (a % b))) := by
  have hz : ¬ lN b = 0 := fun q => by
    have := (pk_lEQ (a := b) (b := 0) (by omega) (by omega)).mp q
    omega
  unfold lb_X12_told_17
  rw [if_neg (fun q => hz ((lg_cmp_eq _ _).mp q)), pu_gzl hz, pk_lRem (by omega) h0 (by omega), pu_lt]
theorem m_eu0 (x0 x2 : Int64) (x4 : Int32) (h : PH) (a : Nat) : lb_X12_told_17 x0 x2 x4 h (lN a) (lN 0) = some (.inr (lN a, lN 0)) := by
  unfold lb_X12_told_17
  rw [if_pos (show lg_cmp (lN 0) 0 = 0 from (lg_cmp_eq _ _).mpr rfl)]
theorem m_euc (x0 x2 : Int64) (x4 : Int32) (h : PH) : ∀ (k a b F : Nat), a < 2 ^ 62 → b < 2 ^ 62 → b < 2 ^ k → 2 * k < F → lp_f (fun s => lb_X12_told_17 x0 x2 x4 h s.1 s.2) F (lN a, lN b) = some (lN (Nat.gcd a b), lN 0) := by
  intro k
  induction k with
  | zero =>
    intro a b F ha hb2 hb hF
    have : b = 0 := by simpa using hb
    subst this
    obtain ⟨F', rfl⟩ : ∃ F', F = F' + 1 := ⟨F - 1, by omega⟩
    rw [Nat.gcd_zero_right]
    exact lp_r (m_eu0 x0 x2 x4 h a)
  | succ k ih =>
    intro a b F ha hb2 hb hF
    obtain ⟨F', rfl⟩ : ∃ F', F = F' + 1 + 1 := ⟨F - 2, by omega⟩
    by_cases h0 : b = 0
    · subst h0
      rw [Nat.gcd_zero_right]
      exact lp_r (m_eu0 x0 x2 x4 h a)
    · have hr := Nat.mod_lt a (show b > 0 by omega)
      rw [lp_s (body := fun s => lb_X12_told_17 x0 x2 x4 h s.1 s.2) (s := (lN a, lN b)) (m_eu1 x0 x2 x4 h ha hb2 (by omega)), ← gcd_step (a := a)]
      by_cases h1 : a % b = 0
      · rw [h1, Nat.gcd_zero_right]
        exact lp_r (m_eu0 x0 x2 x4 h b)
      · have hm := half_mod (b := b) (r := a % b) (by omega) hr
        rw [Nat.pow_succ] at hb
        rw [lp_s (body := fun s => lb_X12_told_17 x0 x2 x4 h s.1 s.2) (s := (lN b, lN (a % b))) (m_eu1 x0 x2 x4 h hb2 (by omega) (by omega)), ← gcd_step (a := b)]
        exact ih (a % b) (b % (a % b)) F' (by omega) (by omega) (by omega) (by omega)
theorem s_eu1 (h : PH) {a b s : Nat} (ha : a < 2 ^ 62) (hb : b < 2 ^ 62) (h0 : 0 < b) (hs : s < 100) : lb_X11_commonDivisor_9 h (lN a) (lN b) (nI s) = some (.inl (lN b, lN (a % b), nI (s + 1))) := by
  have hz : ¬ lN b = 0 := fun q => by
    have := (pk_lEQ (a := b) (b := 0) (by omega) (by omega)).mp q
    omega
  unfold lb_X11_commonDivisor_9
  rw [if_neg (show ¬ (100 : Int32) ≤ nI s from nI_ge (b := 100) hs (by decide)), if_neg (fun q => hz ((lg_cmp_eq _ _).mp q)), pu_gzl hz, pk_lRem (by omega) h0 (by omega), pu_lt, pu_lt, ← nI_succ]
theorem s_eu0 (h : PH) {a s : Nat} (hs : s < 100) : lb_X11_commonDivisor_9 h (lN a) (lN 0) (nI s) = some (.inr (lN a, lN 0, nI s)) := by
  unfold lb_X11_commonDivisor_9
  rw [if_neg (show ¬ (100 : Int32) ≤ nI s from nI_ge (b := 100) hs (by decide)), if_pos (show lg_cmp (lN 0) 0 = 0 from (lg_cmp_eq _ _).mpr rfl)]
theorem s_euc (h : PH) : ∀ (k a b s F : Nat), a < 2 ^ 62 → b < 2 ^ 62 → b < 2 ^ k → s + 2 * k < 100 → 2 * k < F → ∃ t, lp_f (fun s => lb_X11_commonDivisor_9 h s.1 s.2.1 s.2.2) F (lN a, lN b, nI s) = some (lN (Nat.gcd a b), t) := by
  intro k
  induction k with
  | zero =>
    intro a b s F ha hb2 hb hs hF
    have : b = 0 := by simpa using hb
    subst this
    obtain ⟨F', rfl⟩ : ∃ F', F = F' + 1 := ⟨F - 1, by omega⟩
    rw [Nat.gcd_zero_right]
    exact ⟨_, lp_r (s_eu0 h (by omega))⟩
  | succ k ih =>
    intro a b s F ha hb2 hb hs hF
    obtain ⟨F', rfl⟩ : ∃ F', F = F' + 1 + 1 := ⟨F - 2, by omega⟩
    by_cases h0 : b = 0
    · subst h0
      rw [Nat.gcd_zero_right]
      exact ⟨_, lp_r (s_eu0 h (by omega))⟩
    · have hr := Nat.mod_lt a (show b > 0 by omega)
      rw [lp_s (body := fun s => lb_X11_commonDivisor_9 h s.1 s.2.1 s.2.2) (s := (lN a, lN b, nI s)) (s_eu1 h ha hb2 (by omega) (by omega)), ← gcd_step (a := a)]
      by_cases h1 : a % b = 0
      · rw [h1, Nat.gcd_zero_right]
        exact ⟨_, lp_r (s_eu0 h (by omega))⟩
      · have hm := half_mod (b := b) (r := a % b) (by omega) hr
        rw [Nat.pow_succ] at hb
        rw [lp_s (body := fun s => lb_X11_commonDivisor_9 h s.1 s.2.1 s.2.2) (s := (lN b, lN (a % b), nI (s + 1))) (s_eu1 h hb2 (by omega) (by omega) (by omega)), ← gcd_step (a := b)]
        exact ih (a % b) (b % (a % b)) (s + 1 + 1) F' (by omega) (by omega) (by omega) (by omega) (by omega)
/-- an upper number without its sign -/
theorem l_abs {U : Int64} {A : Nat} (hA : A < 2 ^ 62) (hU : U.toInt = (A : Int) ∨ U.toInt = -(A : Int)) : (if 0 < U then U else -U) = lN A ∧ (0 ≤ lg_cmp U 0 → U = lN A) ∧ (¬ 0 ≤ lg_cmp U 0 → -U = lN A) := by
  have z : (0 : Int64).toInt = 0 := rfl
  have hn : (-U).toInt = -U.toInt := by
    rw [Int64.toInt_neg]
    exact Int.bmod_eq_of_le (by omega) (by omega)
  have hl := pk_lT (n := A) (by omega)
  have up : 0 ≤ U.toInt → U = lN A := fun q => by rw [l_eq, hl]; omega
  have dn : U.toInt ≤ 0 → -U = lN A := fun q => by rw [l_eq, hl, hn]; omega
  refine ⟨?_, fun q => ?_, fun q => ?_⟩
  · by_cases h0 : 0 < U
    · rw [if_pos h0]
      rw [l_lt, z] at h0
      exact up (by omega)
    · rw [if_neg h0]
      rw [l_lt, z] at h0
      exact dn (by omega)
  · rw [lg_cmp_ge, l_le, z] at q
    exact up q
  · rw [lg_cmp_ge, l_le, z] at q
    exact dn (by omega)
theorem g_ne {A b : Nat} (hb : 0 < b) (hb2 : b < 2 ^ 62) : ¬ lN (Nat.gcd A b) = 0 := fun q => by
  have h1 := Nat.gcd_pos_of_pos_right A hb
  have h2 := Nat.gcd_le_right A hb
  have := (pk_lEQ (a := Nat.gcd A b) (b := 0) (by omega) (by omega)).mp q
  omega
theorem both_told {U : Int64} {A b : Nat} (w : Int32) (h g : PH) (hA : A < 2 ^ 62) (hU : U.toInt = (A : Int) ∨ U.toInt = -(A : Int)) (hb : 0 < b) (hb2 : b < 2 ^ 40) : ∃ r, f_X11_inLeastTerms U (lN b) w h = some r ∧ f_X12_told U (lN b) w g = some r := by
  obtain ⟨a1, a2, a3⟩ := l_abs hA hU
  have gn := g_ne (A := A) hb (by omega)
  obtain ⟨t, ht⟩ := s_euc h 40 A b 0 fu_l hA (by omega) hb2 (by omega) (by unfold fu_l; omega)
  have me := m_euc U (lN b) w g 40 A b fu_l hA (by omega) hb2 (by unfold fu_l; omega)
  refine ⟨if w = 0 then U / lN (Nat.gcd A b) else lN b / lN (Nat.gcd A b), ?_, ?_⟩
  · unfold f_X11_inLeastTerms f_X11_commonDivisor
    rw [a1, show ((lN A, lN b, 0) : Int64 × Int64 × Int32) = (lN A, lN b, nI 0) from rfl, ht, pu_b1, pu_b1, if_neg (fun q => gn ((lg_cmp_eq _ _).mp q)), pu_gzl gn, pu_gzl gn]
    by_cases hw : w = 0
    · rw [if_pos hw, if_pos hw]
    · rw [if_neg hw, if_neg hw]
  · unfold f_X12_told
    by_cases hs : 0 ≤ lg_cmp U 0
    · have e := a2 hs
      rw [if_pos hs]
      rw [show ((U, lN b) : Int64 × Int64) = (lN A, lN b) from by rw [← e], me, pu_b1, pu_gzl gn, pu_gzl gn]
      by_cases hw : w = 0
      · rw [if_pos hw, if_pos hw]
      · rw [if_neg hw, if_neg hw]
    · have e := a3 hs
      rw [if_neg hs, pu_lt, e, me, pu_b1, pu_gzl gn, pu_gzl gn]
      by_cases hw : w = 0
      · rw [if_pos hw, if_pos hw]
      · rw [if_neg hw, if_neg hw]
/-- loads of the points ahead; what comes into a way by its first piece, and the lower number -/
abbrev la (h : PH) (pt : Nat → Nat) : Nat → Nat := su (fun j => hv_l h (pt j))
abbrev yl (h : PH) (m : Nat) (pt : Nat → Nat) : Nat := su (ya h m pt) (m + 1)
abbrev tf (h : PH) (m : Nat) (pt : Nat → Nat) : Nat → Nat := fun j => hv_l h (pt j) * (yl h m pt - su (ya h m pt) (j + 1))
def un (h : PH) (m kd : Nat) (pt : Nat → Nat) : Nat := if kd = 0 ∨ yl h m pt = 0 then 1 else yl h m pt
def fi (h : PH) (m kd : Nat) (pt : Nat → Nat) : Nat := if kd = 0 ∨ yl h m pt = 0 then la h pt m else su (tf h m pt) m
section WC
variable {h : PH} {x o ci a m kd : Nat} {pt : Nat → Nat}
theorem la_le (hP : iv_P h) (hw : wv h x o ci a m kd pt) {k : Nat} (hk : k ≤ m) : la h pt k ≤ 20 * k := su_le k (fun j hj => (hP.2 _ (hw.2.2.1 j (by omega)).1).2.1.2.2.1)
theorem pcs1 (hk : ¬ kd = 0) : pcs kd m = m + 1 := by
  unfold pcs
  rw [if_neg hk]
theorem un_b (hH : iv_H h) (hX : iv_X h) (hP : iv_P h) (hw : wv h x o ci a m kd pt) (hok : okb h m kd pt = true) : 0 < un h m kd pt ∧ un h m kd pt ≤ 693 ∧ fi h m kd pt ≤ 83160 := by
  have w8 := hw.2.1.2.2.2
  have l1 := la_le hP hw (Nat.le_refl m)
  unfold un fi
  by_cases hq : kd = 0 ∨ yl h m pt = 0
  · rw [if_pos hq, if_pos hq]; omega
  · rw [if_neg hq, if_neg hq]
    have h1 := sy_le hH hX hP hw hok
    have hyl : yl h m pt = su (ya h m pt) (m + 1) := rfl
    rw [pcs1 (fun q => hq (Or.inl q))] at h1
    have h2 : su (tf h m pt) m ≤ 13860 * m := su_le m (fun j hj => by
      have h3 := (hP.2 _ (hw.2.2.1 j hj).1).2.1.2.2.1
      have h4 : yl h m pt - su (ya h m pt) (j + 1) ≤ 693 := by omega
      exact Nat.mul_le_mul h3 h4)
    exact ⟨by omega, h1, by omega⟩
theorem s_ahead (hP : iv_P h) (hw : wv h x o ci a m kd pt) {k : Nat} (hk : k ≤ m + 1) : f_X1_loadsAhead ci a m o (nI k) h = some (nI (la h pt (min k m))) := by
  obtain ⟨⟨w1, w2, w3, w4⟩, ⟨w5, w6, w7, w8⟩, w9, _⟩ := hw
  have hN := hP.1.2.1
  have hL : lp_f (fun s => lb_X1_loadsAhead_5 ci a m o (nI k) h s.1 s.2) fu_l (0, 0) = some (nI (la h pt (min k m)), nI (min k m)) := by
    refine lp_cnt (fun i => (nI (la h pt i), nI i)) (min k m) _ (fun i hi => ?_) ?_ fu_l 0 (by omega) (by unfold fu_l; omega)
    · show lb_X1_loadsAhead_5 ci a m o (nI k) h (nI (la h pt i)) (nI i) = _
      have hj := w9 i (by omega)
      unfold lb_X1_loadsAhead_5
      rw [if_neg (nI_ge (show i < k by omega) (by omega)), pu_gz w2, if_neg (show ¬ Int32.ofNat m ≤ nI i from nI_ge (show i < m by omega) (by omega)), pu_gz w2, pu_gn (show i < m by omega) (by omega), nI_clamp (by omega), hj.2.1, pu_gn (show pt i < 8 by omega) (by decide), nI_clamp (by omega), (hP.2 _ hj.1).2.1.1, nI_add, pu_lt, pu_lt, ← nI_succ]
      rfl
    · show lb_X1_loadsAhead_5 ci a m o (nI k) h (nI (la h pt (min k m))) (nI (min k m)) = _
      unfold lb_X1_loadsAhead_5
      by_cases hq : k ≤ m
      · rw [Nat.min_eq_left hq, if_pos (nI_le (Nat.le_refl _) (by omega))]
      · rw [Nat.min_eq_right (by omega), if_neg (nI_ge (show m < k by omega) (by omega)), pu_gz w2, if_pos (show Int32.ofNat m ≤ nI m from nI_le (Nat.le_refl _) (by omega))]
  unfold f_X1_loadsAhead
  rw [hL, pu_b1]
theorem s_aheadm (hP : iv_P h) (hw : wv h x o ci a m kd pt) : f_X1_loadsAhead ci a m o (Int32.ofNat m) h = some (nI (la h pt m)) := by
  have := s_ahead hP hw (k := m) (by omega)
  rw [Nat.min_self] at this
  exact this
theorem s_lower (hH : iv_H h) (hX : iv_X h) (hP : iv_P h) (hw : wv h x o ci a m kd pt) (hok : okb h m kd pt = true) : vd_carriedLower ci a m o h = some (lN (un h m kd pt)) := by
  have h7 : ¬ kd = 0 → f_X7_carriedLower ci a m o h = some (lN (un h m kd pt)) := by
    intro hk
    have h1 := sy_le hH hX hP hw hok
    have hyl : yl h m pt = su (ya h m pt) (m + 1) := rfl
    unfold f_X7_carriedLower un
    rw [s_ally hH hX hP hw hok, pu_b1]
    rw [pcs1 hk] at h1 ⊢
    by_cases hq : yl h m pt = 0
    · rw [if_pos (by rw [show su (ya h m pt) (m + 1) = 0 from hq]; rfl), if_pos (Or.inr hq)]
      rfl
    · rw [if_neg (nI_ne0 (by omega) (by omega)), if_neg (by omega), nI_l (by omega)]
  unfold vd_carriedLower
  rcases hw.1.2.2.1 with ⟨q1, q2⟩ | ⟨q1, q2⟩ | ⟨q1, q2⟩
  · rw [if_pos q1]
    unfold un
    rw [if_pos (Or.inl q2)]
    rfl
  · rw [if_neg (by omega), if_pos q1]
    exact h7 (by omega)
  · rw [if_neg (by omega), if_neg (by omega)]
    exact h7 (by omega)
theorem s_first (hH : iv_H h) (hX : iv_X h) (hP : iv_P h) (hw : wv h x o ci a m kd pt) (hok : okb h m kd pt = true) : vd_carriedFirst ci a m o h = some (lN (fi h m kd pt)) := by
  have w2 := hw.1.2.1
  have w8 := hw.2.1.2.2.2
  have w9 := hw.2.2.1
  have hN := hP.1.2.1
  have l1 := la_le hP hw (Nat.le_refl m)
  have h7 : ¬ kd = 0 → f_X7_carriedFirst ci a m o h = some (lN (fi h m kd pt)) := by
    intro hk
    have h1 := sy_le hH hX hP hw hok
    have hyl : yl h m pt = su (ya h m pt) (m + 1) := rfl
    unfold f_X7_carriedFirst fi
    rw [s_ally hH hX hP hw hok, pu_b1, pu_gz w2, s_aheadm hP hw, pu_b1, pu_gz w2, pu_lt]
    rw [pcs1 hk] at h1 ⊢
    by_cases hq : yl h m pt = 0
    · rw [if_pos (by rw [show su (ya h m pt) (m + 1) = 0 from hq]; rfl), if_pos (Or.inr hq), nI_l (by omega)]
    · rw [if_neg (nI_ne0 (by omega) (by omega)), if_neg (by omega)]
      have hL : ∃ r, lp_f (fun s => lb_X7_carriedFirst_35 ci a m o h s.1 s.2.1 s.2.2) fu_l (0, 0, Int32.ofNat m - 1) = some r ∧ r.1 = lN (su (tf h m pt) m) := by
        refine lp_0 (fun i s => s.2.2 = nI (m - i) - 1 ∧ s.2.1 = nI (yl h m pt - su (ya h m pt) (m - i + 1)) ∧ s.1 = lN (su (tf h m pt) m - su (tf h m pt) (m - i))) _ m (by omega) ?_ ?_ _ ⟨rfl, ?_, ?_⟩
        · rintro i ⟨c, d, e⟩ hi ⟨e1, e2, e3⟩
          left
          obtain ⟨j, hj⟩ : ∃ j, m - i = j + 1 := ⟨m - i - 1, by omega⟩
          obtain rfl : e = nI j := by rw [← nI_pred, ← hj]; exact e1
          obtain rfl : d = nI (yl h m pt - su (ya h m pt) (j + 1 + 1)) := by rw [← hj]; exact e2
          obtain rfl : c = lN (su (tf h m pt) m - su (tf h m pt) (j + 1)) := by rw [← hj]; exact e3
          have hjm : j < m := by omega
          have hpj := w9 j hjm
          have hld := (hP.2 _ hpj.1).2.1
          have hyo := s_yo hH hX hP hw (k := j + 1) (by omega)
          rw [if_neg (show ¬ dd h m pt (j + 1) = 1000000 from fun q => by have := okb_t.mp hok (j + 1) (by rw [pcs1 hk]; omega); omega)] at hyo
          have m1 := su_mono (ya h m pt) (m + 1) (j + 1 + 1) (by omega)
          have m0 := su_mono (ya h m pt) (m + 1) (j + 1) (by omega)
          have m2 := su_mono (tf h m pt) m (j + 1) (by omega)
          have d1 : su (ya h m pt) (j + 1 + 1) = su (ya h m pt) (j + 1) + dd h m pt (j + 1) / 1000 := rfl
          have d2 : su (tf h m pt) (j + 1) = su (tf h m pt) j + tf h m pt j := rfl
          have t1 : yl h m pt - su (ya h m pt) (j + 1 + 1) + dd h m pt (j + 1) / 1000 = yl h m pt - su (ya h m pt) (j + 1) := by
            show su (ya h m pt) (m + 1) - _ + _ = su (ya h m pt) (m + 1) - _
            omega
          have t2 : hv_l h (pt j) * (yl h m pt - su (ya h m pt) (j + 1)) = tf h m pt j := rfl
          have b2 : tf h m pt j ≤ 20 * 693 := Nat.mul_le_mul hld.2.2.1 (by omega)
          refine ⟨(lN (su (tf h m pt) m - su (tf h m pt) j), nI (yl h m pt - su (ya h m pt) (j + 1)), nI j - 1), ?_, ?_, ?_, ?_⟩
          · show lb_X7_carriedFirst_35 ci a m o h (lN (su (tf h m pt) m - su (tf h m pt) (j + 1))) (nI (yl h m pt - su (ya h m pt) (j + 1 + 1))) (nI j) = _
            unfold lb_X7_carriedFirst_35
            rw [if_neg (nI_pos (by omega)), ← nI_succ, hyo, pu_b1, nI_add, t1, pu_lt, pu_gz w2, pu_gn hjm (by omega), nI_clamp (by omega), hpj.2.1, pu_gn (show pt j < 8 by omega) (by decide), nI_clamp (by omega), hld.1, nI_mul, t2, nI_l (by omega), lN_add, pu_lt, pu_lt, Int32.sub_eq_add_neg]
            congr 4
            omega
          · show nI j - 1 = nI (m - (i + 1)) - 1
            rw [show m - (i + 1) = j by omega]
          · show nI _ = nI (yl h m pt - su (ya h m pt) (m - (i + 1) + 1))
            rw [show m - (i + 1) = j by omega]
          · show lN _ = lN (su (tf h m pt) m - su (tf h m pt) (m - (i + 1)))
            rw [show m - (i + 1) = j by omega]
        · rintro ⟨c, d, e⟩ ⟨e1, e2, e3⟩
          have e1 : e = nI (m - m) - 1 := e1
          have e3 : c = lN (su (tf h m pt) m - su (tf h m pt) (m - m)) := e3
          rw [Nat.sub_self] at e1 e3
          refine ⟨(c, d, e), ?_, ?_⟩
          · show lb_X7_carriedFirst_35 ci a m o h c d e = _
            unfold lb_X7_carriedFirst_35
            rw [if_pos (by rw [e1]; decide)]
          · show c = _
            rw [e3]
            rfl
        · show (0 : Int32) = nI (yl h m pt - su (ya h m pt) (m - 0 + 1))
          rw [Nat.sub_zero, Nat.sub_self]
          rfl
        · show (0 : Int64) = lN (su (tf h m pt) m - su (tf h m pt) (m - 0))
          rw [Nat.sub_zero, Nat.sub_self]
          rfl
      obtain ⟨r, r1, r2⟩ := hL
      rw [r1, pu_b1, r2]
  unfold vd_carriedFirst
  rcases hw.1.2.2.1 with ⟨q1, q2⟩ | ⟨q1, q2⟩ | ⟨q1, q2⟩
  · rw [if_pos q1]
    unfold fi f_X1_carriedFirst
    rw [if_pos (Or.inl q2), pu_gz w2, s_aheadm hP hw, pu_b1, nI_l (by omega)]
  · rw [if_neg (by omega), if_pos q1]
    exact h7 (by omega)
  · rw [if_neg (by omega), if_neg (by omega)]
    exact h7 (by omega)
/-- what a piece carries -/
abbrev cu (h : PH) (m kd : Nat) (pt : Nat → Nat) (k : Nat) : Int64 := lN (fi h m kd pt) - lN (un h m kd pt * la h pt k)
theorem s_upper (hH : iv_H h) (hX : iv_X h) (hP : iv_P h) (hw : wv h x o ci a m kd pt) (hok : okb h m kd pt = true) {k : Nat} (hk : k < pcs kd m) : f_X1_carriedUpper ci a m o (nI k) h = some (cu h m kd pt k) := by
  have hp := pcs_le kd m
  have w8 := hw.2.1.2.2.2
  have l1 := la_le hP hw (k := k) (by omega)
  unfold f_X1_carriedUpper
  rw [s_first hH hX hP hw hok, pu_b1, s_lower hH hX hP hw hok, pu_b1, s_ahead hP hw (by omega), pu_b1, Nat.min_eq_left (by omega), nI_l (by omega), lN_mul]
theorem cu_abs (hH : iv_H h) (hX : iv_X h) (hP : iv_P h) (hw : wv h x o ci a m kd pt) (hok : okb h m kd pt = true) {k : Nat} (hk : k ≤ m) : ∃ z : Int, (cu h m kd pt k).toInt = z ∧ -83160 ≤ z ∧ z ≤ 83160 := by
  obtain ⟨u1, u2, u3⟩ := un_b hH hX hP hw hok
  have w8 := hw.2.1.2.2.2
  have l1 := la_le hP hw hk
  have h1 : un h m kd pt * la h pt k ≤ 693 * 120 := Nat.mul_le_mul u2 (by omega)
  refine ⟨(fi h m kd pt : Int) - (un h m kd pt * la h pt k : Nat), ?_, by omega, by omega⟩
  rw [l_sub (by rw [pk_lT (by omega), pk_lT (by omega)]; omega) (by rw [pk_lT (by omega), pk_lT (by omega)]; omega), pk_lT (by omega), pk_lT (by omega)]
end WC
