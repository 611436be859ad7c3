/-! DOORS: the class's rows one after another, and the reference's numbers of rows -/
/-- core-yards of a row's first k doors, from the box, and of the lamp's own run -/
def ct (D : Nat → Nat → Nat) (B c : Nat) (d : Nat → Nat) : Nat → Nat
  | 0 => Yd D B c
  | k + 1 => ct D B c d k + if k = 0 then Yd D B (d 0) else 2 * Yd D (d (k - 1)) (d k)
theorem ct_c {D : Nat → Nat → Nat} {B c : Nat} {d e : Nat → Nat} : ∀ k, (∀ j, j < k → d j = e j) → ct D B c d k = ct D B c e k
  | 0, _ => rfl
  | k + 1, h => by
    unfold ct
    rw [ct_c k (fun j hj => h j (by omega))]
    by_cases hk : k = 0
    · subst hk; rw [h 0 (by omega)]
    · rw [if_neg hk, if_neg hk, h (k - 1) (by omega), h k (by omega)]
/-- all of it -/
def cc (D : Nat → Nat → Nat) (B c n : Nat) (d : Nat → Nat) : Nat := ct D B c d n + Yd D (d (n - 1)) c
/-- of the row r: 1000000, if it isn't a row of the set -/
def cR (D : Nat → Nat → Nat) (B c n set : Nat) (r : Nat) : Nat := if ts (dg 8 n r) n = set then cc D B c n (dg 8 n r) else 1000000
theorem ts_c {d e : Nat → Nat} : ∀ k, (∀ j, j < k → d j = e j) → ts d k = ts e k
  | 0, _ => rfl
  | k + 1, h => by
    unfold ts
    rw [ts_c k (fun j hj => h j (by omega)), h k (by omega)]
/-- digits take away no more than one each -/
theorem ts_pc {d : Nat → Nat} {set : Nat} (hs : set < 256) : ∀ j, ∃ L, L < 256 ∧ (∀ p, L.testBit p = true ↔ set.testBit p = true ∧ ∀ k, k < j → d k ≠ p) ∧ pc set ≤ pc L + j
  | 0 => ⟨set, hs, fun p => ⟨fun h => ⟨h, fun k hk => by omega⟩, fun h => h.1⟩, by omega⟩
  | j + 1 => by
    obtain ⟨L, h1, h2, h3⟩ := ts_pc (d := d) hs j
    by_cases hb : L.testBit (d j) = true
    · refine ⟨rm1 L (d j), by have := rm_le L (d j); omega, fun p => ?_, ?_⟩
      · rw [rm_bit (by omega), h2]
        constructor
        · rintro ⟨⟨a1, a2⟩, a3⟩
          refine ⟨a1, fun k hk => ?_⟩
          by_cases hkj : k = j
          · subst hkj; exact fun q => a3 q.symm
          · exact a2 k (by omega)
        · rintro ⟨a1, a2⟩
          exact ⟨⟨a1, fun k hk => a2 k (by omega)⟩, fun q => a2 j (by omega) q.symm⟩
      · have := pc_rm h1 hb
        omega
    · refine ⟨L, h1, fun p => ?_, by omega⟩
      rw [h2]
      constructor
      · rintro ⟨a1, a2⟩
        refine ⟨a1, fun k hk => ?_⟩
        by_cases hkj : k = j
        · subst hkj
          intro q
          subst q
          exact hb ((h2 _).mpr ⟨a1, a2⟩)
        · exact a2 k (by omega)
      · rintro ⟨a1, a2⟩
        exact ⟨a1, fun k hk => a2 k (by omega)⟩
/-- a row whose digit t isn't one of those left doesn't have all of the set -/
theorem no_row {set left n t : Nat} {d : Nat → Nat} (hs : set < 256) (hl : left < 256) (hn : pc set = n) (ht : t < n) (hpc : pc left + t = n) (hleft : ∀ p, left.testBit p = true ↔ set.testBit p = true ∧ ∀ k, k < t → d k ≠ p) (hc : left.testBit (d t) = false) : ¬ ts d n = set := by
  intro he
  -- the digits behind t, put one place ahead
  obtain ⟨L, h1, h2, h3⟩ := ts_pc (d := fun k => d (t + 1 + k)) hl (n - t - 1)
  have hne : L ≠ 0 := fun q => by
    subst q
    have : pc 0 = 0 := sl_zero _ 8
    omega
  obtain ⟨p, hp⟩ := set_ne hne
  obtain ⟨a1, a2⟩ := (h2 p).mp hp
  obtain ⟨b1, b2⟩ := (hleft p).mp a1
  rw [← he, ts_bit] at b1
  obtain ⟨j, j1, j2⟩ := b1
  rcases Nat.lt_trichotomy j t with q | q | q
  · exact b2 j q j2
  · subst q
    rw [← j2] at a1
    rw [hc] at a1
    cases a1
  · exact a2 (j - (t + 1)) (by omega) (by
      show d (t + 1 + (j - (t + 1))) = p
      rw [show t + 1 + (j - (t + 1)) = j by omega]
      exact j2)
/-- what the class holds of the best row -/
def dS (h : PH) (c : Nat → Nat) (n m : Nat) : Prop := h.1 34 2 = nI (bs c m).1 ∧ ((bs c m).1 < 1000000 → ∀ k, k < n → h.1 35 k = nI (dg 8 n (bs c m).2 k))
/-- the house as doors see it -/
def dH (h : PH) (P B : Nat) (D : Nat → Nat → Nat) : Prop := cD h P D ∧ h.1 10 0 = nI P ∧ h.1 10 1 = nI B ∧ B < P
theorem dH_fr {h g : PH} {P B : Nat} {D : Nat → Nat → Nat} (hd : dH h P B D) (e : ∀ a, a ≠ 34 → a ≠ 35 → a ≠ 36 → g.1 a = h.1 a) : dH g P B D := by
  obtain ⟨a1, a2, a3, a4⟩ := hd
  exact ⟨cD_fr a1 (e 16 (by decide) (by decide) (by decide)), by rw [e 10 (by decide) (by decide) (by decide)]; exact a2, by rw [e 10 (by decide) (by decide) (by decide)]; exact a3, a4⟩
theorem pow8 (j q : Nat) : q * 8 ^ (j + 1) = (q * 8) * 8 ^ j ∧ (q + 1) * 8 ^ (j + 1) = (q * 8 + 8) * 8 ^ j := by
  constructor
  · rw [Nat.pow_succ, Nat.mul_assoc, Nat.mul_comm 8]
  · rw [Nat.pow_succ, Nat.mul_comm (8 ^ j) 8, ← Nat.mul_assoc, Nat.add_mul, Nat.one_mul]
theorem s_keepF {h : PH} {x : Nat} : ∀ {b : Nat}, h.1 34 2 = nI b → b < 2 ^ 31 → x < 2 ^ 31 → ∃ g, f_X2_keepIfFewer (nI x) h = some ((), g) ∧ (∀ a, a ≠ 34 → a ≠ 35 → g.1 a = h.1 a) ∧ g.2 = h.2 ∧ (b ≤ x → g = h) ∧ (x < b → g.1 34 2 = nI x ∧ ∀ k, k < 4 → g.1 35 k = h.1 36 k) := by
  intro b hb b1 b2
  unfold f_X2_keepIfFewer
  rw [hb]
  by_cases hq : b ≤ x
  · rw [if_pos (nI_le hq b2)]
    exact ⟨h, rfl, fun _ _ _ => rfl, rfl, fun _ => rfl, fun q => by omega⟩
  · rw [if_neg (nI_ge (by omega) b1), pu_lt]
    refine ⟨ph_r (ph_i h 34 2 (nI x)) 35 (va_cpy ((ph_i h 34 2 (nI x)).1 36) ((ph_i h 34 2 (nI x)).1 35) 0 0 4), rfl, ?_, rfl, fun q => absurd q hq, fun _ => ⟨?_, ?_⟩⟩
    · intro a a1 a2
      rw [pr_rn a2, pr_ne a1]
    · rw [pr_rn (by decide), pr_eq, if_pos rfl]
    · intro k hk
      rw [pr_re]
      unfold va_cpy
      rw [if_pos (by omega), pr_ne (by decide), Nat.zero_add, Nat.sub_zero]
theorem x_ext {P B c n set : Nat} {D : Nat → Nat → Nat} (hc : c < P) (hs : set < 2 ^ P) (hs8 : set < 256) (hn : pc set = n) (hn4 : n ≤ 4) (hn1 : 1 ≤ n) : ∀ (m F t q left : Nat) (h : PH), t + m = n → m < F → dH h P B D → left < 256 → pc left = m → (∀ p, left.testBit p = true ↔ set.testBit p = true ∧ ∀ k, k < t → dg 8 t q k ≠ p) → (∀ k, k < t → h.1 36 k = nI (dg 8 t q k) ∧ set.testBit (dg 8 t q k) = true) → dS h (cR D B c n set) n (q * 8 ^ m) → ∃ g, f_X2_extend F (nI c) (nI left) (nI t) (nI (ct D B c (dg 8 t q) t)) h = some ((), g) ∧ (∀ a, a ≠ 34 → a ≠ 35 → a ≠ 36 → g.1 a = h.1 a) ∧ g.2 = h.2 ∧ (∀ k, k < t → g.1 36 k = h.1 36 k) ∧ dS g (cR D B c n set) n ((q + 1) * 8 ^ m) := by
  have bP : ∀ p, set.testBit p = true → p < P := fun p hp => bit_lt hs hp
  have ctb : ∀ {h : PH}, dH h P B D → ∀ (d : Nat → Nat) k, (∀ j, j < k → d j < P) → ct D B c d k ≤ 2000000 * k + 1000000 := by
    intro h hd d k
    induction k with
    | zero => intro _; exact Yd_le hd.1 hd.2.2.2 hc
    | succ k ih =>
      intro hk
      have := ih (fun j hj => hk j (by omega))
      unfold ct
      by_cases h0 : k = 0
      · subst h0
        have := Yd_le hd.1 hd.2.2.2 (hk 0 (by omega))
        rw [if_pos rfl]
        omega
      · have := Yd_le hd.1 (hk (k - 1) (by omega)) (hk k (by omega))
        rw [if_neg h0]
        omega
  intro m
  induction m with
  | zero =>
    intro F t q left h htm hF hd hl hpc hleft hrow hS
    have ht : t = n := by omega
    subst ht
    have h0 : left = 0 := pc_0 hl hpc
    subst h0
    obtain ⟨F', rfl⟩ : ∃ F', F = F' + 1 := ⟨F - 1, by omega⟩
    have hlt : ∀ k, k < t → dg 8 t q k < P := fun k hk => bP _ (hrow k hk).2
    have hcb := ctb hd (dg 8 t q) t hlt
    have hY := Yd_le hd.1 (hlt (t - 1) (by omega)) hc
    have hts : ts (dg 8 t q) t = set := by
      apply set_ext
      intro p
      rw [ts_bit]
      constructor
      · rintro ⟨j, j1, j2⟩
        rw [← j2]
        exact (hrow j j1).2
      · intro hp
        apply Classical.byContradiction
        intro hno
        have := (hleft p).mpr ⟨hp, fun k hk hq => hno ⟨k, hk, hq⟩⟩
        rw [Nat.zero_testBit] at this
        cases this
    have hcR : cR D B c t set q = cc D B c t (dg 8 t q) := by
      unfold cR
      rw [if_pos hts]
    have hb := bs_le (cR D B c t set) q
    rw [Nat.pow_zero, Nat.mul_one] at hS ⊢
    obtain ⟨g, g1, g2, g3, g4, g5⟩ := s_keepF (h := h) (x := cc D B c t (dg 8 t q)) hS.1 (by omega) (by unfold cc; omega)
    refine ⟨g, ?_, fun a a1 a2 _ => g2 a a1 a2, g3, fun k hk => by rw [g2 36 (by decide) (by decide)], ?_⟩
    · have e1 : nI t - 1 = nI (t - 1) := by
        obtain ⟨j, rfl⟩ : ∃ j, t = j + 1 := ⟨t - 1, by omega⟩
        rw [nI_pred, Nat.add_sub_cancel]
      unfold f_X2_extend
      rw [if_neg (nI_nle (by omega) (by omega)), if_pos (show nI 0 = 0 from rfl), e1, pu_gn (show t - 1 < 4 by omega) (by decide), nI_clamp (by omega), (hrow (t - 1) (by omega)).1, c_yf hd.1 (hlt _ (by omega)) hc, pu_b1, nI_add, show ct D B c (dg 8 t q) t + Yd D (dg 8 t q (t - 1)) c = cc D B c t (dg 8 t q) from rfl, g1, pu_b2]
    · unfold dS
      show g.1 34 2 = nI (if cR D B c t set q < (bs (cR D B c t set) q).1 then (cR D B c t set q, q) else bs (cR D B c t set) q).1 ∧ ((if cR D B c t set q < (bs (cR D B c t set) q).1 then (cR D B c t set q, q) else bs (cR D B c t set) q).1 < 1000000 → ∀ k, k < t → g.1 35 k = nI (dg 8 t (if cR D B c t set q < (bs (cR D B c t set) q).1 then (cR D B c t set q, q) else bs (cR D B c t set) q).2 k))
      rw [hcR]
      by_cases hq : cc D B c t (dg 8 t q) < (bs (cR D B c t set) q).1
      · rw [if_pos hq]
        obtain ⟨a1, a2⟩ := g5 hq
        exact ⟨a1, fun _ k hk => by rw [a2 k (by omega)]; exact (hrow k hk).1⟩
      · rw [if_neg hq, g4 (by omega)]
        exact hS
  | succ m ih =>
    intro F t q left h htm hF hd hl hpc hleft hrow hS
    obtain ⟨F', rfl⟩ : ∃ F', F = F' + 1 := ⟨F - 1, by omega⟩
    have hlt : ∀ k, k < t → dg 8 t q k < P := fun k hk => bP _ (hrow k hk).2
    have hP8 := hd.1.1
    obtain ⟨pw1, pw2⟩ := pow8 m q
    have hl0 : ¬ left = 0 := fun z => by
      subst z
      have : pc 0 = 0 := sl_zero _ 8
      omega
    have skip : ∀ e, e < 8 → left.testBit e = false → bs (cR D B c n set) ((q * 8 + e + 1) * 8 ^ m) = bs (cR D B c n set) ((q * 8 + e) * 8 ^ m) := by
      intro e he hb
      refine bs_pre (by decide) (fun r hr => ?_)
      have hdg : ∀ k, k < t + 1 → dg 8 n r k = dg 8 (t + 1) (q * 8 + e) k := fun k hk => by rw [dg_pre hk (show t + 1 ≤ n by omega), show n - (t + 1) = m by omega, hr]
      have hnr : ¬ ts (dg 8 n r) n = set := no_row hs8 hl hn (t := t) (by omega) (by omega) (fun p => by
        rw [hleft p]
        constructor
        · rintro ⟨a1, a2⟩
          exact ⟨a1, fun k hk => by rw [hdg k (by omega), dg_ch he hk]; exact a2 k hk⟩
        · rintro ⟨a1, a2⟩
          exact ⟨a1, fun k hk => by have := a2 k hk; rw [hdg k (by omega), dg_ch he hk] at this; exact this⟩) (by rw [hdg t (by omega), dg_ct he]; exact hb)
      show _ ≤ cR D B c n set r
      unfold cR
      rw [if_neg hnr]
      exact bs_le _ _
    have hL : ∃ r, lp_f (fun s => lb_X2_extend_34 (f_X2_extend F') (nI c) (nI left) (nI t) (nI (ct D B c (dg 8 t q) t)) s.1 s.2) fu_l (0, h) = some r ∧ ((∀ a, a ≠ 34 → a ≠ 35 → a ≠ 36 → r.2.1 a = h.1 a) ∧ r.2.2 = h.2 ∧ (∀ k, k < t → r.2.1 36 k = h.1 36 k) ∧ dS r.2 (cR D B c n set) n ((q * 8 + P) * 8 ^ m)) := by
      refine lp_0 (fun i s => s.1 = nI i ∧ (∀ a, a ≠ 34 → a ≠ 35 → a ≠ 36 → s.2.1 a = h.1 a) ∧ s.2.2 = h.2 ∧ (∀ k, k < t → s.2.1 36 k = h.1 36 k) ∧ dS s.2 (cR D B c n set) n ((q * 8 + i) * 8 ^ m)) _ P (by omega) ?_ ?_ _ ⟨rfl, fun _ _ _ _ => rfl, rfl, fun _ _ => rfl, by rw [Nat.add_zero, ← pw1]; exact hS⟩
      · rintro i ⟨x, g⟩ hi ⟨e0, e1, e2, e3, e4⟩
        left
        have e0 : x = nI i := e0
        subst e0
        have gd := dH_fr (g := g) hd e1
        have hi8 : i < 8 := by omega
        by_cases hb : left.testBit i = true
        · -- a child
          have hset := (hleft i).mp hb
          have ctn : ct D B c (dg 8 (t + 1) (q * 8 + i)) (t + 1) = ct D B c (dg 8 t q) t + if t = 0 then Yd D B i else 2 * Yd D (dg 8 t q (t - 1)) i := by
            show ct D B c (dg 8 (t + 1) (q * 8 + i)) t + (if t = 0 then Yd D B (dg 8 (t + 1) (q * 8 + i) 0) else 2 * Yd D (dg 8 (t + 1) (q * 8 + i) (t - 1)) (dg 8 (t + 1) (q * 8 + i) t)) = _
            rw [ct_c t (fun j hj => dg_ch hi8 hj), dg_ct hi8]
            by_cases h0 : t = 0
            · subst h0
              rw [if_pos rfl, if_pos rfl, dg_ct hi8]
            · rw [if_neg h0, if_neg h0, dg_ch hi8 (by omega)]
          obtain ⟨k, k1, k2, k3, k4, k5⟩ := ih F' (t + 1) (q * 8 + i) (rm1 left i) (ph_i g 36 t (nI i)) (by omega) (by omega) (dH_fr gd (fun a _ _ a3 => pr_ne a3)) (by have := rm_le left i; omega) (by have := pc_rm hl hb; omega) (fun p => by
            rw [rm_bit (by omega), hleft]
            constructor
            · rintro ⟨⟨a1, a2⟩, a3⟩
              refine ⟨a1, fun j hj => ?_⟩
              by_cases hjt : j = t
              · subst hjt; rw [dg_ct hi8]; exact fun z => a3 z.symm
              · rw [dg_ch hi8 (by omega)]; exact a2 j (by omega)
            · rintro ⟨a1, a2⟩
              refine ⟨⟨a1, fun j hj => ?_⟩, ?_⟩
              · have := a2 j (by omega)
                rw [dg_ch hi8 hj] at this
                exact this
              · have := a2 t (by omega)
                rw [dg_ct hi8] at this
                exact fun z => this z.symm) (fun j hj => by
            rw [pr_eq]
            by_cases hjt : j = t
            · subst hjt; rw [if_pos rfl, dg_ct hi8]; exact ⟨rfl, hset.1⟩
            · rw [if_neg hjt, dg_ch hi8 (by omega)]
              rw [show g.1 36 j = h.1 36 j from e3 j (by omega)]
              exact hrow j (by omega)) (by
            unfold dS
            rw [pr_ne (show (34 : Nat) ≠ 36 by decide), pr_ne (show (35 : Nat) ≠ 36 by decide)]
            exact e4)
          refine ⟨(nI (i + 1), k), ?_, rfl, ?_, ?_, ?_, k5⟩
          · show lb_X2_extend_34 (f_X2_extend F') (nI c) (nI left) (nI t) (nI (ct D B c (dg 8 t q) t)) (nI i) g = _
            unfold lb_X2_extend_34
            rw [gd.2.1, if_neg (nI_ge hi (by omega)), if_neg (show ¬ (4 : Int32) ≤ nI t from nI_ge (b := 4) (by omega) (by decide)), bt_t hl hi8, hb, if_pos rfl, if_neg (show ¬ (1 : Int32) = 0 by decide)]
            by_cases h0 : t = 0
            · subst h0
              rw [if_pos rfl] at ctn
              rw [if_pos (show nI 0 = 0 from rfl), gd.2.2.1, c_yf gd.1 gd.2.2.2 hi, pu_b1, pu_gn (by decide) (by decide), nI_clamp (by omega), pu_lt, nI_rm hi8, ← nI_succ, nI_add, ← ctn, k1, pu_b2, pu_lt, ← nI_succ]
            · have e1' : nI t - 1 = nI (t - 1) := by
                obtain ⟨j, rfl⟩ : ∃ j, t = j + 1 := ⟨t - 1, by omega⟩
                rw [nI_pred, Nat.add_sub_cancel]
              rw [if_neg h0] at ctn
              have r1 : g.1 36 (t - 1) = nI (dg 8 t q (t - 1)) := by
                rw [show g.1 36 (t - 1) = h.1 36 (t - 1) from e3 _ (by omega)]
                exact (hrow _ (by omega)).1
              rw [if_neg (nI_ne0 (by omega) (by omega)), e1', pu_gn (show t - 1 < 4 by omega) (by decide), nI_clamp (by omega), r1, c_yf gd.1 (hlt _ (by omega)) hi, pu_b1, show (2 : Int32) = nI 2 from rfl, nI_mul, pu_lt, pu_gn (show t < 4 by omega) (by decide), nI_clamp (by omega), pu_lt, nI_rm hi8, ← nI_succ, nI_add, ← ctn, k1, pu_b2, pu_lt, ← nI_succ]
          · intro a a1 a2 a3
            show k.1 a = _
            rw [k2 a a1 a2 a3, pr_ne a3]
            exact e1 a a1 a2 a3
          · show k.2 = _
            rw [k3]
            exact e2
          · intro j hj
            show k.1 36 j = _
            rw [k4 j (by omega), pr_eq, if_neg (by omega)]
            exact e3 j hj
        · have hb' : left.testBit i = false := by simpa using hb
          refine ⟨(nI (i + 1), g), ?_, rfl, e1, e2, e3, ?_⟩
          · show lb_X2_extend_34 (f_X2_extend F') (nI c) (nI left) (nI t) (nI (ct D B c (dg 8 t q) t)) (nI i) g = _
            unfold lb_X2_extend_34
            rw [gd.2.1, if_neg (nI_ge hi (by omega)), if_neg (show ¬ (4 : Int32) ≤ nI t from nI_ge (b := 4) (by omega) (by decide)), bt_t hl hi8, hb', if_neg (show ¬ false = true by decide), if_pos rfl, pu_lt, ← nI_succ]
          · show dS g (cR D B c n set) n ((q * 8 + (i + 1)) * 8 ^ m)
            unfold dS
            rw [← Nat.add_assoc, skip i hi8 hb']
            exact e4
      · rintro ⟨x, g⟩ ⟨e0, e1, e2, e3, e4⟩
        have e0 : x = nI P := e0
        subst e0
        have gd := dH_fr (g := g) hd e1
        refine ⟨(nI P, g), ?_, e1, e2, e3, e4⟩
        show lb_X2_extend_34 (f_X2_extend F') (nI c) (nI left) (nI t) (nI (ct D B c (dg 8 t q) t)) (nI P) g = _
        unfold lb_X2_extend_34
        rw [gd.2.1, if_pos (nI_le (Nat.le_refl _) (by omega))]
    obtain ⟨r, r1, r2, r3, r4, r5⟩ := hL
    refine ⟨r.2, ?_, r2, r3, r4, ?_⟩
    · unfold f_X2_extend
      by_cases h0 : t = 0
      · subst h0
        rw [if_pos (show nI 0 ≤ 0 by decide), r1, pu_b1]
      · rw [if_neg (nI_nle (by omega) (by omega)), if_neg (nI_ne0 (by omega) (by omega)), r1, pu_b1]
    · have rest : ∀ e, P + e ≤ 8 → bs (cR D B c n set) ((q * 8 + (P + e)) * 8 ^ m) = bs (cR D B c n set) ((q * 8 + P) * 8 ^ m) := by
        intro e
        induction e with
        | zero => intro _; rfl
        | succ e ihe =>
          intro he
          rw [← ihe (by omega), show q * 8 + (P + (e + 1)) = q * 8 + (P + e) + 1 by omega]
          refine skip (P + e) (by omega) ?_
          cases hq : left.testBit (P + e) with
          | false => rfl
          | true => have := bP _ ((hleft _).mp hq).1; omega
      have := rest (8 - P) (by omega)
      rw [show P + (8 - P) = 8 by omega] at this
      unfold dS
      rw [pw2, this]
      exact r5
theorem s_few {P B c set : Nat} {D : Nat → Nat → Nat} {h : PH} (hc : c < P) (hs : set < 2 ^ P) (hs8 : set < 256) (hn4 : pc set ≤ 4) (hn1 : 1 ≤ pc set) (hd : dH h P B D) : ∃ g, f_X2_fewestCores (nI c) (nI set) h = some (nI (bs (cR D B c (pc set) set) (8 ^ pc set)).1, g) ∧ (∀ a, a ≠ 34 → a ≠ 35 → a ≠ 36 → g.1 a = h.1 a) ∧ g.2 = h.2 ∧ dS g (cR D B c (pc set) set) (pc set) (8 ^ pc set) := by
  have hd1 := dH_fr (g := ph_i h 34 2 1000000) hd (fun a a1 _ _ => pr_ne a1)
  obtain ⟨g, g1, g2, g3, g4, g5⟩ := x_ext hc hs hs8 rfl hn4 hn1 (pc set) 12 0 0 set (ph_i h 34 2 1000000) (by omega) (by omega) hd1 hs8 rfl (fun p => ⟨fun q => ⟨q, fun k hk => by omega⟩, fun q => q.1⟩) (fun k hk => by omega) ⟨by rw [Nat.zero_mul, pr_eq, if_pos rfl]; rfl, fun q => by rw [Nat.zero_mul] at q; exact absurd q (Nat.lt_irrefl 1000000)⟩
  rw [Nat.zero_add, Nat.one_mul] at g5
  refine ⟨g, ?_, fun a a1 a2 a3 => by rw [g2 a a1 a2 a3, pr_ne a1], g3, g5⟩
  unfold f_X2_fewestCores
  rw [pu_lt, hd1.2.2.1, c_yf hd1.1 hd1.2.2.2 hc, pu_b1]
  rw [show (0 : Int32) = nI 0 from rfl, show Yd D B c = ct D B c (dg 8 0 0) 0 from rfl, g1, pu_b2, g5.1]
