/-! DOORS: the reference; cores and door -/
theorem m_door {r n k : Nat} (h : PH) (hn : n ≤ 4) (hk : k < n) (hr : r < 8 ^ n) : f_X12_doorIn (nI r) (nI n) (nI k) h = some (nI (dg 8 n r k)) := by
  have h8 : 8 ^ n ≤ 8 ^ 4 := Nat.pow_le_pow_right (by decide) hn
  have hdiv : ∀ i, r / 8 ^ i ≤ r := fun i => Nat.div_le_self r _
  have hL : ∃ s, lp_f (fun s => lb_X12_doorIn_7 (nI k) h s.1 s.2) fu_l (nI r, nI n - 1) = some s ∧ s.1 = nI (r / 8 ^ (n - 1 - k)) := by
    refine lp_0 (fun i s => s.1 = nI (r / 8 ^ i) ∧ s.2 = nI (n - 1 - i)) _ (n - 1 - k) (by omega) ?_ ?_ _ ⟨by show nI r = _; rw [Nat.pow_zero, Nat.div_one], by
      show nI n - 1 = nI (n - 1 - 0)
      obtain ⟨j, rfl⟩ : ∃ j, n = j + 1 := ⟨n - 1, by omega⟩
      rw [nI_pred]
      rfl⟩
    · rintro i ⟨x, y⟩ hi ⟨e1, e2⟩
      left
      obtain rfl : x = nI (r / 8 ^ i) := e1
      obtain rfl : y = nI (n - 1 - i) := e2
      have := hdiv i
      refine ⟨(nI (r / 8 ^ (i + 1)), nI (n - 1 - (i + 1))), ?_, rfl, rfl⟩
      show lb_X12_doorIn_7 (nI k) h (nI (r / 8 ^ i)) (nI (n - 1 - i)) = _
      unfold lb_X12_doorIn_7
      obtain ⟨j, hj⟩ : ∃ j, n - 1 - i = j + 1 := ⟨n - 1 - i - 1, by omega⟩
      rw [hj, if_neg (nI_ge (by omega) (by omega)), pu_lt, show (8 : Int32) = nI 8 from rfl, nI_div (by omega) (by decide), Nat.div_div_eq_div_mul, ← Nat.pow_succ, show nI (j + 1) + (-1) = nI j from by rw [← Int32.sub_eq_add_neg, nI_pred], pu_lt, show n - 1 - (i + 1) = j by omega]
    · rintro ⟨x, y⟩ ⟨e1, e2⟩
      obtain rfl : y = nI (n - 1 - (n - 1 - k)) := e2
      refine ⟨(x, nI (n - 1 - (n - 1 - k))), ?_, e1⟩
      show lb_X12_doorIn_7 (nI k) h x (nI (n - 1 - (n - 1 - k))) = _
      unfold lb_X12_doorIn_7
      rw [if_pos (nI_le (by omega) (by omega))]
  obtain ⟨s, s1, s2⟩ := hL
  have := hdiv (n - 1 - k)
  unfold f_X12_doorIn dg
  rw [pu_lt, s1, pu_b1, s2]
  show some (nI _ - nI _ / nI 8 * nI 8) = _
  rw [nI_div (by omega) (by decide), nI_mul, nI_sub (by omega)]
  congr 2
  omega
theorem m_cof {P B c n r : Nat} {D : Nat → Nat → Nat} {h g0 : PH} (hd : mD h P D) (hcd : cD g0 P D) (h2 : h.1 43 2 = nI B) (hB : B < P) (hc : c < P) (hn : n ≤ 4) (hn1 : 1 ≤ n) (hr : r < 8 ^ n) (hdg : ∀ k, k < n → dg 8 n r k < P) : f_X12_coresOf (nI c) (nI r) (nI n) h = some (nI (cv (cc D B c n (dg 8 n r)))) := by
  have hP8 := hd.1
  have at8 : ∀ {a b : Nat}, a < P → b < P → 8 * a + b < 64 := fun ha hb => by omega
  have gaD : ∀ {β : Type} {a b : Nat} {K : Option β}, a < P → b < P → ga_i (8 * nI a + nI b) 64 K = K := fun ha hb => by rw [x8', pu_gn (at8 ha hb) (by decide)]
  have val : ∀ {a b : Nat}, a < P → b < P → h.1 53 (8 * nI a + nI b).toNatClampNeg / 1000 = nI (if D a b = 1000000 then 10000 else D a b / 1000) := fun {a b} ha hb => by
    have := at8 ha hb
    rw [x8', nI_clamp (by omega), m_fd hd ha hb]
  have prev : ∀ k, k ≤ n → (if k = 0 then B else dg 8 n r (k - 1)) < P := by
    intro k hk
    by_cases h0 : k = 0
    · rw [if_pos h0]; exact hB
    · rw [if_neg h0]; exact hdg _ (by omega)
  have hY := fun {a b : Nat} (ha : a < P) (hb : b < P) => Yd_b hcd ha hb
  have hL : ∃ s, lp_f (fun s => lb_X12_coresOf_40 (nI c) (nI r) (nI n) h s.1 s.2.1 s.2.2.1 s.2.2.2) fu_l (nI (if D B c = 1000000 then 10000 else D B c / 1000), nI B, (if D B c = 1000000 then 0 else 1), 0) = some s ∧ s.2.1 = nI (dg 8 n r (n - 1)) ∧ ((s.2.2.1 = 1 ∧ s.1 = nI (ct D B c (dg 8 n r) n) ∧ ct D B c (dg 8 n r) n ≤ 198 * n + 99) ∨ (s.2.2.1 = 0 ∧ 1000000 ≤ ct D B c (dg 8 n r) n)) := by
    refine lp_0 (fun i s => s.2.2.2 = nI i ∧ s.2.1 = nI (if i = 0 then B else dg 8 n r (i - 1)) ∧ ((s.2.2.1 = 1 ∧ s.1 = nI (ct D B c (dg 8 n r) i) ∧ ct D B c (dg 8 n r) i ≤ 198 * i + 99) ∨ (s.2.2.1 = 0 ∧ 1000000 ≤ ct D B c (dg 8 n r) i))) _ n (by omega) ?_ ?_ _ ⟨rfl, rfl, ?_⟩
    · rintro i ⟨x, y, z, u⟩ hi ⟨e1, e2, e3⟩
      left
      obtain rfl : u = nI i := e1
      have hpr := prev i (by omega)
      have hdi := hdg i hi
      have ctn : ct D B c (dg 8 n r) (i + 1) = ct D B c (dg 8 n r) i + (if i = 0 then 1 else 2) * Yd D (if i = 0 then B else dg 8 n r (i - 1)) (dg 8 n r i) := by
        show ct D B c (dg 8 n r) i + _ = _
        by_cases h0 : i = 0
        · subst h0
          rw [if_pos rfl, if_pos rfl, if_pos rfl, Nat.one_mul]
        · rw [if_neg h0, if_neg h0, if_neg h0]
      generalize hpv : (if i = 0 then B else dg 8 n r (i - 1)) = pv at *
      obtain rfl : y = nI pv := e2
      have body : ∀ (x z : Int32), lb_X12_coresOf_40 (nI c) (nI r) (nI n) h x (nI pv) z (nI i) = some (.inl (x + nI ((if D pv (dg 8 n r i) = 1000000 then 10000 else D pv (dg 8 n r i) / 1000) * (if i = 0 then 1 else 2)), nI (dg 8 n r i), (if z = 0 then 0 else if D pv (dg 8 n r i) = 1000000 then 0 else 1), nI (i + 1))) := by
        intro x z
        unfold lb_X12_coresOf_40
        rw [if_neg (nI_ge hi (by omega)), m_door h hn hi hr, pu_b1]
        have c0 : (nI i = 0) = (i = 0) := by
          apply propext
          constructor
          · intro q; exact nI_inj (show nI i = nI 0 from q) (by omega) (by decide)
          · intro q; subst q; rfl
        have v1 : h.1 53 (8 * nI pv + nI (dg 8 n r i)).toNatClampNeg / 1000 * 1 = nI ((if D pv (dg 8 n r i) = 1000000 then 10000 else D pv (dg 8 n r i) / 1000) * 1) := by
          rw [val hpr hdi]
          show nI _ * nI 1 = _
          rw [nI_mul]
        have v2 : h.1 53 (8 * nI pv + nI (dg 8 n r i)).toNatClampNeg / 1000 * 2 = nI ((if D pv (dg 8 n r i) = 1000000 then 10000 else D pv (dg 8 n r i) / 1000) * 2) := by
          rw [val hpr hdi]
          show nI _ * nI 2 = _
          rw [nI_mul]
        simp only [gaD hpr hdi, v1, v2, c0, pu_lt, ← nI_succ, m_th hd hpr hdi, pu_b1]
        by_cases hz : z = 0
        · rw [if_pos hz, if_pos hz]
          by_cases h0 : i = 0
          · rw [if_pos h0, if_pos h0]
          · rw [if_neg h0, if_neg h0]
        · rw [if_neg hz, if_neg hz]
          by_cases hq : D pv (dg 8 n r i) = 1000000
          · simp only [hq, if_true]
            by_cases h0 : i = 0
            · simp only [h0, if_true]
            · simp only [h0, if_false]
          · simp only [hq, if_false]
            rw [if_neg (show ¬ (1 : Int32) = 0 by decide)]
            by_cases h0 : i = 0
            · simp only [h0, if_true]
            · simp only [h0, if_false]
      refine ⟨_, body x z, rfl, by show nI (dg 8 n r i) = nI (if i + 1 = 0 then B else dg 8 n r (i + 1 - 1)); rw [if_neg (by omega), Nat.add_sub_cancel], ?_⟩
      show ((if z = 0 then (0 : Int32) else if D pv (dg 8 n r i) = 1000000 then 0 else 1) = 1 ∧ x + nI ((if D pv (dg 8 n r i) = 1000000 then 10000 else D pv (dg 8 n r i) / 1000) * (if i = 0 then 1 else 2)) = nI (ct D B c (dg 8 n r) (i + 1)) ∧ _) ∨ ((if z = 0 then (0 : Int32) else if D pv (dg 8 n r i) = 1000000 then 0 else 1) = 0 ∧ _)
      rw [ctn]
      rcases e3 with ⟨f1, f2, f3⟩ | ⟨f1, f2⟩
      · obtain rfl : z = 1 := f1
        obtain rfl : x = nI (ct D B c (dg 8 n r) i) := f2
        have f3 : ct D B c (dg 8 n r) i ≤ 198 * i + 99 := f3
        rw [if_neg (show ¬ (1 : Int32) = 0 by decide)]
        rcases hY hpr hdi with ⟨y1, y2⟩ | ⟨y1, y2⟩
        · left
          have y3 : Yd D pv (dg 8 n r i) = D pv (dg 8 n r i) / 1000 := by unfold Yd; rw [if_neg y2]
          rw [if_neg y2, if_neg y2]
          refine ⟨rfl, ?_, ?_⟩
          · rw [nI_add, y3, Nat.mul_comm]
          · have : (if i = 0 then 1 else 2) * Yd D pv (dg 8 n r i) ≤ 2 * 99 := Nat.mul_le_mul (by split <;> omega) y1
            omega
        · right
          rw [if_pos y2]
          refine ⟨rfl, ?_⟩
          rw [y1]
          split <;> omega
      · right
        obtain rfl : z = 0 := f1
        have f2 : 1000000 ≤ ct D B c (dg 8 n r) i := f2
        exact ⟨if_pos rfl, by omega⟩
    · rintro ⟨x, y, z, u⟩ ⟨e1, e2, e3⟩
      obtain rfl : u = nI n := e1
      refine ⟨(x, y, z, nI n), ?_, ?_, e3⟩
      · show lb_X12_coresOf_40 (nI c) (nI r) (nI n) h x y z (nI n) = _
        unfold lb_X12_coresOf_40
        rw [if_pos (nI_le (Nat.le_refl _) (by omega))]
      · have e2 : y = nI (if n = 0 then B else dg 8 n r (n - 1)) := e2
        rw [if_neg (by omega)] at e2
        exact e2
    · show ((if D B c = 1000000 then (0 : Int32) else 1) = 1 ∧ nI (if D B c = 1000000 then 10000 else D B c / 1000) = nI (Yd D B c) ∧ Yd D B c ≤ 198 * 0 + 99) ∨ ((if D B c = 1000000 then (0 : Int32) else 1) = 0 ∧ 1000000 ≤ Yd D B c)
      rcases hY hB hc with ⟨y1, y2⟩ | ⟨y1, y2⟩
      · left
        rw [if_neg y2, if_neg y2]
        exact ⟨rfl, by unfold Yd; rw [if_neg y2], by omega⟩
      · right
        rw [if_pos y2]
        exact ⟨rfl, by omega⟩
  obtain ⟨s, s1, s2, s3⟩ := hL
  have hlast := hdg (n - 1) (by omega)
  unfold f_X12_coresOf
  rw [h2, gaD hB hc, val hB hc, pu_lt, pu_lt, m_th hd hB hc, pu_b1, s1, pu_b1, s2, m_th hd hlast hc, pu_b1, gaD hlast hc, val hlast hc]
  unfold cv cc
  rcases s3 with ⟨f1, f2, f3⟩ | ⟨f1, f2⟩
  · rw [f1, f2, if_neg (show ¬ (1 : Int32) = 0 by decide)]
    rcases hY hlast hc with ⟨y1, y2⟩ | ⟨y1, y2⟩
    · have y3 : Yd D (dg 8 n r (n - 1)) c = D (dg 8 n r (n - 1)) c / 1000 := by unfold Yd; rw [if_neg y2]
      rw [if_neg y2, if_neg y2, if_neg (show ¬ (1 : Int32) = 0 by decide), nI_add, if_pos (by omega), y3]
    · rw [if_pos y2, if_pos rfl, if_neg (by omega)]
      rfl
  · rw [f1, if_pos rfl, if_neg (by omega)]
    rfl
/-- what the reference holds of the best row -/
def dM (h : PH) (c : Nat → Nat) (m : Nat) : Prop := h.1 43 36 = nI (cv (bs c m).1) ∧ h.1 43 35 = if (bs c m).1 < 1000000 then nI (bs c m).2 else -9
theorem m_layD {P B c set : Nat} {D : Nat → Nat → Nat} {h g0 : PH} (hd : mD h P D) (hcd : cD g0 P D) (h2 : h.1 43 2 = nI B) (hB : B < P) (hc : c < P) (hs : set < 2 ^ P) (hs8 : set < 256) (hn4 : pc set ≤ 4) (hn1 : 1 ≤ pc set) : ∃ g, f_X12_layDoors (nI c) (nI set) h = some ((), g) ∧ (∀ a, a ≠ 43 → g.1 a = h.1 a) ∧ (∀ j, j ≠ 35 → j ≠ 36 → g.1 43 j = h.1 43 j) ∧ g.2 = h.2 ∧ dM g (cR D B c (pc set) set) (8 ^ pc set) := by
  generalize hn : pc set = n at *
  have h8 : 8 ^ n ≤ 8 ^ 4 := Nat.pow_le_pow_right (by decide) hn4
  have sh : ((1 : Int32) <<< ((3 * nI n) &&& 31)) = nI (8 ^ n) := by
    have : ∀ n : Fin 5, ((1 : Int32) <<< ((3 * nI n.1) &&& 31)) = nI (8 ^ n.1) := by decide +kernel
    exact this ⟨n, by omega⟩
  have hL : ∃ s, lp_f (fun s => lb_X12_layDoors_20 (nI c) (nI set) (nI n) s.1 s.2) fu_l (0, ph_i (ph_i h 43 35 (-9)) 43 36 10000000) = some s ∧ (∀ a, a ≠ 43 → s.2.1 a = h.1 a) ∧ (∀ j, j ≠ 35 → j ≠ 36 → s.2.1 43 j = h.1 43 j) ∧ s.2.2 = h.2 ∧ dM s.2 (cR D B c n set) (8 ^ n) := by
    refine lp_0 (fun i s => s.1 = nI i ∧ (∀ a, a ≠ 43 → s.2.1 a = h.1 a) ∧ (∀ j, j ≠ 35 → j ≠ 36 → s.2.1 43 j = h.1 43 j) ∧ s.2.2 = h.2 ∧ dM s.2 (cR D B c n set) i) _ (8 ^ n) (by omega) ?_ ?_ _ ⟨rfl, ?_, ?_, rfl, ?_, ?_⟩
    · rintro i ⟨x, g⟩ hi ⟨e0, e1, e2, e3, e4, e5⟩
      left
      obtain rfl : x = nI i := e0
      have e4 : g.1 43 36 = nI (cv (bs (cR D B c n set) i).1) := e4
      have hb := bs_le (cR D B c n set) i
      have hcv := @cv_le (bs (cR D B c n set) i).1
      have gd : mD g P D := mD_fr hd (e1 53 (by decide))
      have g2 : g.1 43 2 = nI B := by rw [e2 2 (by decide) (by decide)]; exact h2
      have d8 : ∀ k, dg 8 n i k < 8 := fun k => dg_lt (by decide) n i k
      have has : lp_f (fun s => lb_X12_layDoors_36 (nI c) (nI set) (nI n) (nI i) g s.1 s.2) fu_l (0, 0) = some (nI (ts (dg 8 n i) n), nI n) := by
        refine lp_cnt (fun j => (nI (ts (dg 8 n i) j), nI j)) n _ (fun j hj => ?_) ?_ fu_l 0 (by omega) (by unfold fu_l; omega)
        · show lb_X12_layDoors_36 (nI c) (nI set) (nI n) (nI i) g (nI (ts (dg 8 n i) j)) (nI j) = _
          unfold lb_X12_layDoors_36
          rw [if_neg (nI_ge hj (by omega)), m_door g hn4 hj hi, pu_b1, bt_o (ts_lt (fun k _ => d8 k)) (d8 j), pu_lt, pu_lt, ← nI_succ]
          rfl
        · show lb_X12_layDoors_36 (nI c) (nI set) (nI n) (nI i) g (nI (ts (dg 8 n i) n)) (nI n) = _
          unfold lb_X12_layDoors_36
          rw [if_pos (nI_le (Nat.le_refl _) (by omega))]
      have tsl : ts (dg 8 n i) n < 256 := ts_lt (fun k _ => d8 k)
      have bsn : bs (cR D B c n set) (i + 1) = if cR D B c n set i < (bs (cR D B c n set) i).1 then (cR D B c n set i, i) else bs (cR D B c n set) i := rfl
      by_cases hq : ts (dg 8 n i) n = set
      · have hdg : ∀ k, k < n → dg 8 n i k < P := fun k hk => bit_lt hs (by rw [← hq]; exact ts_bit.mpr ⟨k, hk, rfl⟩)
        have cof := m_cof (c := c) (n := n) (r := i) gd hcd g2 hB hc hn4 hn1 hi hdg
        have hcR : cR D B c n set i = cc D B c n (dg 8 n i) := by unfold cR; rw [if_pos hq]
        have hcv2 := @cv_le (cc D B c n (dg 8 n i))
        by_cases hlt : cc D B c n (dg 8 n i) < (bs (cR D B c n set) i).1
        · refine ⟨(nI (i + 1), ph_i (ph_i g 43 35 (nI i)) 43 36 (nI (cv (cc D B c n (dg 8 n i))))), ?_, rfl, ?_, ?_, e3, ?_, ?_⟩
          · show lb_X12_layDoors_20 (nI c) (nI set) (nI n) (nI i) g = _
            unfold lb_X12_layDoors_20
            have : cv (cc D B c n (dg 8 n i)) < cv (bs (cR D B c n set) i).1 := by
              unfold cv
              rw [if_pos (show cc D B c n (dg 8 n i) < 1000000 by omega)]
              split <;> omega
            rw [sh, if_neg (nI_ge hi (by omega)), has, pu_b1, if_pos (by rw [hq]), cof, pu_b1, e4, if_neg (nI_ge this (by omega)), pu_lt, pu_lt, pu_lt, ← nI_succ]
          · intro a ha
            show (ph_i (ph_i g 43 35 (nI i)) 43 36 _).1 a = _
            rw [pr_ne ha, pr_ne ha]
            exact e1 a ha
          · intro j j1 j2
            show (ph_i (ph_i g 43 35 (nI i)) 43 36 _).1 43 j = _
            rw [pr_eq, if_neg j2, pr_eq, if_neg j1]
            exact e2 j j1 j2
          · show (ph_i (ph_i g 43 35 (nI i)) 43 36 _).1 43 36 = _
            rw [pr_eq, if_pos rfl, bsn, hcR, if_pos hlt]
          · show (ph_i (ph_i g 43 35 (nI i)) 43 36 _).1 43 35 = _
            rw [pr_eq, if_neg (by decide), pr_eq, if_pos rfl, bsn, hcR, if_pos hlt]
            show nI i = if cc D B c n (dg 8 n i) < 1000000 then nI i else -9
            rw [if_pos (by omega)]
        · refine ⟨(nI (i + 1), g), ?_, rfl, e1, e2, e3, ?_, ?_⟩
          · show lb_X12_layDoors_20 (nI c) (nI set) (nI n) (nI i) g = _
            unfold lb_X12_layDoors_20
            have : cv (bs (cR D B c n set) i).1 ≤ cv (cc D B c n (dg 8 n i)) := by
              unfold cv
              by_cases hz : (bs (cR D B c n set) i).1 < 1000000
              · rw [if_pos hz]; split <;> omega
              · rw [if_neg hz, if_neg (by omega)]; omega
            rw [sh, if_neg (nI_ge hi (by omega)), has, pu_b1, if_pos (by rw [hq]), cof, pu_b1, e4, if_pos (nI_le this (by omega)), pu_lt, ← nI_succ]
          · show g.1 43 36 = _
            rw [bsn, hcR, if_neg hlt]
            exact e4
          · show g.1 43 35 = _
            rw [bsn, hcR, if_neg hlt]
            exact e5
      · have hcR : cR D B c n set i = 1000000 := by unfold cR; rw [if_neg hq]
        refine ⟨(nI (i + 1), g), ?_, rfl, e1, e2, e3, ?_, ?_⟩
        · show lb_X12_layDoors_20 (nI c) (nI set) (nI n) (nI i) g = _
          unfold lb_X12_layDoors_20
          rw [sh, if_neg (nI_ge hi (by omega)), has, pu_b1, if_neg (by rw [nI_eq (by omega) (by omega)]; exact hq), e4, if_pos (show nI (cv (bs (cR D B c n set) i).1) ≤ (10000000 : Int32) from nI_le (b := 10000000) hcv (by decide)), pu_lt, ← nI_succ]
        · show g.1 43 36 = _
          rw [bsn, hcR, if_neg (show ¬ 1000000 < (bs (cR D B c n set) i).1 by omega)]
          exact e4
        · show g.1 43 35 = _
          rw [bsn, hcR, if_neg (show ¬ 1000000 < (bs (cR D B c n set) i).1 by omega)]
          exact e5
    · rintro ⟨x, g⟩ ⟨e0, e1, e2, e3, e4⟩
      obtain rfl : x = nI (8 ^ n) := e0
      refine ⟨(nI (8 ^ n), g), ?_, e1, e2, e3, e4⟩
      show lb_X12_layDoors_20 (nI c) (nI set) (nI n) (nI (8 ^ n)) g = _
      unfold lb_X12_layDoors_20
      rw [sh, if_pos (nI_le (Nat.le_refl _) (by omega))]
    · intro a ha
      show (ph_i (ph_i h 43 35 (-9)) 43 36 10000000).1 a = _
      rw [pr_ne ha, pr_ne ha]
    · intro j j1 j2
      show (ph_i (ph_i h 43 35 (-9)) 43 36 10000000).1 43 j = _
      rw [pr_eq, if_neg j2, pr_eq, if_neg j1]
    · show (ph_i (ph_i h 43 35 (-9)) 43 36 10000000).1 43 36 = _
      rw [pr_eq, if_pos rfl]
      rfl
    · show (ph_i (ph_i h 43 35 (-9)) 43 36 10000000).1 43 35 = _
      rw [pr_eq, if_neg (by decide), pr_eq, if_pos rfl]
      rfl
  obtain ⟨s, s1, s2⟩ := hL
  refine ⟨s.2, ?_, s2⟩
  unfold f_X12_layDoors
  rw [m_bits hs8, hn, pu_b1, pu_lt, pu_lt, s1, pu_b1]
/-- a set of doors: both see whether it is one -/
theorem rg_ds {h : PH} (hi : iv_H h) (x : Int32) : (∃ s : Nat, s < 2 ^ hv_P h ∧ s < 256 ∧ 1 ≤ pc s ∧ pc s ≤ 4 ∧ x = nI s ∧ (∀ g : PH, g.1 10 0 = h.1 10 0 → f_X11_isSetOfDoors x g = some 1) ∧ ∀ g : PH, g.1 43 1 = h.1 43 1 → f_X12_noDoors x g = some 0) ∨ ((∀ g : PH, g.1 10 0 = h.1 10 0 → f_X11_isSetOfDoors x g = some 0) ∧ ∀ g : PH, g.1 43 1 = h.1 43 1 → f_X12_noDoors x g = some 1) := by
  have z1 : (1 : Int64).toInt = 1 := rfl
  have w1 : h.1 10 0 = nI (hv_P h) := hi.1.1
  have w2 : hv_P h ≤ 8 := hi.1.2.1
  have w3 : h.1 43 1 = h.1 10 0 := hi.1.2.2
  have hp := p2_le w2
  by_cases hx : ∃ s, s < 2 ^ hv_P h ∧ x = nI s
  · obtain ⟨s, hs, rfl⟩ := hx
    have hpc := pc_le s
    by_cases h0 : s = 0
    · right
      subst h0
      refine ⟨fun g e => ?_, fun g e => ?_⟩
      · unfold f_X11_isSetOfDoors
        rw [e, w1, sh_all w2, pu_lt, if_pos ((set_in w2 _).mpr ⟨0, hs, rfl⟩), if_pos (show nI 0 = 0 from rfl)]
      · unfold f_X12_noDoors
        rw [f_ini, nI_toInt (by decide), z1, if_neg (by omega), pu_b1, if_pos rfl]
    · have hc : f_X12_in (nI s).toInt64 1 (((1 : Int64) <<< ((nI (hv_P h)).toInt64 &&& 63)) - 1) = fun _ => some 1 := by
        funext g
        rw [f_ini, nI_toInt (by omega), z1, sh_alll w2, if_pos (by omega)]
      by_cases h4 : pc s ≤ 4
      · left
        refine ⟨s, hs, by omega, ?_, h4, rfl, fun g e => ?_, fun g e => ?_⟩
        · rcases Nat.eq_zero_or_pos (pc s) with q | q
          · exact absurd (pc_0 (by omega) q) h0
          · exact q
        · unfold f_X11_isSetOfDoors
          rw [e, w1, sh_all w2, pu_lt, if_pos ((set_in w2 _).mpr ⟨s, hs, rfl⟩), if_neg (nI_ne0 (by omega) (by omega)), s_bc (by omega), pu_b1, if_neg (show ¬ (4 : Int32) < nI (pc s) from nI_nlt (a := 4) h4 (by decide))]
        · unfold f_X12_noDoors
          rw [e, w3, w1, hc, pu_b1, if_neg (by decide), m_bits (by omega), pu_b1, if_pos (show nI (pc s) ≤ 4 from nI_le (b := 4) h4 (by decide))]
      · right
        refine ⟨fun g e => ?_, fun g e => ?_⟩
        · unfold f_X11_isSetOfDoors
          rw [e, w1, sh_all w2, pu_lt, if_pos ((set_in w2 _).mpr ⟨s, hs, rfl⟩), if_neg (nI_ne0 (by omega) (by omega)), s_bc (by omega), pu_b1, if_pos (show (4 : Int32) < nI (pc s) from nI_lt (a := 4) (by omega) (by omega))]
        · unfold f_X12_noDoors
          rw [e, w3, w1, hc, pu_b1, if_neg (by decide), m_bits (by omega), pu_b1, if_neg (show ¬ nI (pc s) ≤ 4 from nI_ge (a := 4) (by omega) (by omega))]
  · right
    refine ⟨fun g e => ?_, fun g e => ?_⟩
    · unfold f_X11_isSetOfDoors
      rw [e, w1, sh_all w2, pu_lt, if_neg (fun q => hx ((set_in w2 _).mp q))]
    · unfold f_X12_noDoors
      rw [f_ini, e, w3, w1, sh_alll w2, z1, if_neg (fun q => hx ((in_set w2 _).mp ⟨by omega, q.2⟩)), pu_b1, if_pos rfl]
theorem inv_drs {n : Nat} {h g k : PH} (hi : Inv n h) (e1 : ∀ a, a ≠ 34 → a ≠ 35 → a ≠ 36 → g.1 a = h.1 a) (e2 : g.2 = h.2) (f1 : ∀ a, a ≠ 43 → k.1 a = g.1 a) (f2 : ∀ j, j ≠ 35 → j ≠ 36 → k.1 43 j = g.1 43 j) (f3 : k.2 = g.2) : Inv (n + 1) k := by
  refine inv_frame hi (fun a ha => ?_) (fun j hj => ?_) ?_ ?_ (by rw [f3, e2])
  · rw [f1 a (fun q => by subst q; cases ha), e1 a (fun q => by subst q; cases ha) (fun q => by subst q; cases ha) (fun q => by subst q; cases ha)]
  · rw [f2 j (by omega) (by omega), e1 43 (by decide) (by decide) (by decide)]
  · rw [f1 0 (by decide), e1 0 (by decide) (by decide) (by decide)]
  · rw [f1 0 (by decide), e1 0 (by decide) (by decide) (by decide), f2 0 (by decide) (by decide), e1 43 (by decide) (by decide) (by decide)]
    exact hi.2.1.1
theorem s_yon {v : Nat} (hv : v < 2 ^ 31) (h : PH) : f_X11_yardsOrNone (nI v) h = some (if v < 1000000 then nI v else -9) := by
  unfold f_X11_yardsOrNone
  by_cases hq : v < 1000000
  · rw [if_pos (show nI v < 1000000 from nI_lt (b := 1000000) hq (by decide)), if_pos hq]
  · rw [if_neg (show ¬ nI v < 1000000 from nI_nlt (b := 1000000) (by omega) hv), if_neg hq]
theorem o_cores {n : Nat} {h : PH} (hi : Inv n h) (x y : Int32) : ∃ r h1 h2, f_X11_cores x y h = some (r, h1) ∧ f_X12_cores x y h1 = some (r, h2) ∧ Inv (n + 1) h2 := by
  have hH := hi.2.2.1
  have hX := hi.2.2.2.1
  rcases rg_pl hH x with ⟨c, hc, hc8, rfl, w1, w2⟩ | ⟨w1, w2⟩
  rotate_left
  · exact ⟨-1, h, h, by simp [f_X11_cores, w1 h rfl, pu_b1], by simp [f_X12_cores, w2 h rfl, pu_b1], inv_up hi⟩
  rcases rg_ds hH y with ⟨s, hs, hs8, hn1, hn4, rfl, v1, v2⟩ | ⟨v1, v2⟩
  rotate_left
  · exact ⟨-2, h, h, by simp [f_X11_cores, w1 h rfl, v1 h rfl, pu_b1], by simp [f_X12_cores, w2 h rfl, v2 h rfl, pu_b1], inv_up hi⟩
  have hB : hv_B h < hv_P h := hH.2.1.2.1 (by omega)
  obtain ⟨g, g1, g2, g3, g4⟩ := s_few (c := c) (B := hv_B h) hc hs hs8 hn4 hn1 ⟨cD_of hH hX, hH.1.1, hH.2.1.1, hB⟩
  have e43 : g.1 43 = h.1 43 := g2 43 (by decide) (by decide) (by decide)
  obtain ⟨k, k1, k2, k3, k4, k5⟩ := m_layD (h := g) (c := c) (B := hv_B h) (mD_fr (mD_of hH hX) (g2 53 (by decide) (by decide) (by decide))) (cD_of hH hX) (by rw [e43, hH.2.1.2.2]; exact hH.2.1.1) hB hc hs hs8 hn4 hn1
  have hb := bs_le (cR (hv_D h) (hv_B h) c (pc s) s) (8 ^ pc s)
  have ha := bs_arg (cR (hv_D h) (hv_B h) c (pc s) s) (8 ^ pc s)
  have h8 : 8 ^ pc s ≤ 8 ^ 4 := Nat.pow_le_pow_right (by decide) hn4
  obtain ⟨k6, k7⟩ := k5
  generalize bs (cR (hv_D h) (hv_B h) c (pc s) s) (8 ^ pc s) = bb at *
  refine ⟨if bb.1 < 1000000 then nI bb.1 else -9, g, k, ?_, ?_, inv_drs hi g2 g3 k2 k3 k4⟩
  · unfold f_X11_cores
    rw [w1 h rfl, pu_b1, if_neg (by decide), v1 h rfl, pu_b1, if_neg (by decide), g1, pu_b2, s_yon (by omega), pu_b1]
  · unfold f_X12_cores
    rw [w2 g (by rw [e43]), pu_b1, if_pos rfl, v2 g (by rw [e43]), pu_b1, if_pos rfl, k1, pu_b2, k6, k7]
    by_cases hq : bb.1 < 1000000
    · have := ha hq
      rw [if_pos hq, if_pos hq, if_pos (nI_pos' (by omega))]
      unfold cv
      rw [if_pos hq]
    · rw [if_neg hq, if_neg hq, if_neg (by decide)]
theorem o_door {n : Nat} {h : PH} (hi : Inv n h) (x y z : Int32) : ∃ r h1 h2, f_X11_door x y z h = some (r, h1) ∧ f_X12_door x y z h1 = some (r, h2) ∧ Inv (n + 1) h2 := by
  have hH := hi.2.2.1
  have hX := hi.2.2.2.1
  have z0 : (0 : Int64).toInt = 0 := rfl
  have z3 : (3 : Int64).toInt = 3 := rfl
  have y4 : (4 : Int32).toInt = 4 := rfl
  rcases rg_pl hH x with ⟨c, hc, hc8, rfl, w1, w2⟩ | ⟨w1, w2⟩
  rotate_left
  · exact ⟨-1, h, h, by simp [f_X11_door, w1 h rfl, pu_b1], by simp [f_X12_door, w2 h rfl, pu_b1], inv_up hi⟩
  rcases rg_ds hH y with ⟨s, hs, hs8, hn1, hn4, rfl, v1, v2⟩ | ⟨v1, v2⟩
  rotate_left
  · exact ⟨-2, h, h, by simp [f_X11_door, w1 h rfl, v1 h rfl, pu_b1], by simp [f_X12_door, w2 h rfl, v2 h rfl, pu_b1], inv_up hi⟩
  by_cases hz : 0 ≤ z.toInt ∧ z.toInt < 4
  rotate_left
  · refine ⟨-1, h, h, ?_, ?_, inv_up hi⟩
    · unfold f_X11_door
      rw [w1 h rfl, pu_b1, if_neg (by decide), v1 h rfl, pu_b1, if_neg (by decide)]
      by_cases h0 : 0 ≤ z.toInt
      · rw [if_neg (nI_nlt0 h0), if_neg (show ¬ z < 4 by rw [i_lt]; omega)]
      · rw [if_pos (nI_lt0 (by omega))]
    · unfold f_X12_door
      rw [w2 h rfl, pu_b1, if_pos rfl, v2 h rfl, pu_b1, if_pos rfl, f_ini, if_neg (by omega), pu_b1, if_pos rfl]
  obtain ⟨j, hj, rfl⟩ := ix_of hz.1 (n := 4) (by omega) (by omega)
  have hB : hv_B h < hv_P h := hH.2.1.2.1 (by omega)
  obtain ⟨g, g1, g2, g3, g4⟩ := s_few (c := c) (B := hv_B h) hc hs hs8 hn4 hn1 ⟨cD_of hH hX, hH.1.1, hH.2.1.1, hB⟩
  have e43 : g.1 43 = h.1 43 := g2 43 (by decide) (by decide) (by decide)
  obtain ⟨k, k1, k2, k3, k4, k5⟩ := m_layD (h := g) (c := c) (B := hv_B h) (mD_fr (mD_of hH hX) (g2 53 (by decide) (by decide) (by decide))) (cD_of hH hX) (by rw [e43, hH.2.1.2.2]; exact hH.2.1.1) hB hc hs hs8 hn4 hn1
  have hb := bs_le (cR (hv_D h) (hv_B h) c (pc s) s) (8 ^ pc s)
  have ha := bs_arg (cR (hv_D h) (hv_B h) c (pc s) s) (8 ^ pc s)
  have h8 : 8 ^ pc s ≤ 8 ^ 4 := Nat.pow_le_pow_right (by decide) hn4
  obtain ⟨k6, k7⟩ := k5
  obtain ⟨q1, q2⟩ := g4
  generalize bs (cR (hv_D h) (hv_B h) c (pc s) s) (8 ^ pc s) = bb at *
  have i1 : f_X12_in (nI j).toInt64 0 3 g = some 1 := by rw [f_ini, nI_toInt (by omega), if_pos (by omega)]
  have cl : f_X11_door (nI c) (nI s) (nI j) h = if (1000000 : Int32) ≤ nI bb.1 then some ((-9), g) else (if nI j < nI (pc s) then some (g.1 35 j, g) else some ((-9), g)) := by
    unfold f_X11_door
    rw [w1 h rfl, pu_b1, if_neg (by decide), v1 h rfl, pu_b1, if_neg (by decide), if_neg (nI_pos (by omega)), if_pos (show nI j < 4 from nI_lt (b := 4) hj (by decide)), g1, pu_b2, s_bc hs8, pu_b1, pu_gn hj (by decide), nI_clamp (by omega)]
  have ml : f_X12_door (nI c) (nI s) (nI j) g = if (k.1 43 35) < 0 then some ((-9), k) else (if nI j < nI (pc s) then (bd_1 (f_X12_doorIn (k.1 43 35) (nI (pc s)) (nI j) k) fun r_8 => some (r_8, k)) else some ((-9), k)) := by
    unfold f_X12_door
    rw [w2 g (by rw [e43]), pu_b1, if_pos rfl, v2 g (by rw [e43]), pu_b1, if_pos rfl, i1, pu_b1, if_neg (by decide), k1, pu_b2, m_bits hs8, pu_b1, pu_b1]
  by_cases hq : bb.1 < 1000000
  · have ha' := ha hq
    rw [if_neg (show ¬ (1000000 : Int32) ≤ nI bb.1 from nI_ge (b := 1000000) hq (by decide))] at cl
    rw [k7, if_pos hq, if_neg (nI_pos (by omega))] at ml
    by_cases hjn : j < pc s
    · refine ⟨nI (dg 8 (pc s) bb.2 j), g, k, ?_, ?_, inv_drs hi g2 g3 k2 k3 k4⟩
      · rw [cl, if_pos (nI_lt hjn (by omega)), q2 hq j hjn]
      · rw [ml, if_pos (nI_lt hjn (by omega)), m_door k hn4 hjn ha'.1, pu_b1]
    · refine ⟨-9, g, k, ?_, ?_, inv_drs hi g2 g3 k2 k3 k4⟩
      · rw [cl, if_neg (nI_nlt (by omega) (by omega))]
      · rw [ml, if_neg (nI_nlt (by omega) (by omega))]
  · refine ⟨-9, g, k, ?_, ?_, inv_drs hi g2 g3 k2 k3 k4⟩
    · rw [cl, if_pos (show (1000000 : Int32) ≤ nI bb.1 from nI_le (a := 1000000) (by omega) (by omega))]
    · rw [ml, k7, if_neg hq, if_pos (by decide)]
