/-! PLANS: the class settles points one after another -/
def cS (h : PH) (N : Nat) (ld rm : Nat → Nat) : Prop := N ≤ 8 ∧ h.1 17 0 = nI N ∧ ∀ p, p < N → h.1 19 p = nI (ld p) ∧ ld p ≤ 20 ∧ h.1 20 p = nI (rm p) ∧ rm p ≤ 5
theorem cS_fr {h g : PH} {N : Nat} {ld rm : Nat → Nat} (hq : cS h N ld rm) (e17 : g.1 17 = h.1 17) (e19 : g.1 19 = h.1 19) (e20 : g.1 20 = h.1 20) : cS g N ld rm := by
  unfold cS
  rw [e17, e19, e20]
  exact hq
/-- the class's best row of a plan -/
def pS (h : PH) (w N : Nat) (c : Nat → Nat) (m : Nat) : Prop := h.1 27 6 = nI (bs c m).1 ∧ ((bs c m).1 < 1000000 → ∀ p, p < N → h.1 29 p = nI (dg w N (bs c m).2 p))
/-- the class's plan, asked: ways, fuse, dark, rooms, yards of sets -/
def pA (h : PH) (w N f : Nat) (dv : Int32) (rm yv : Nat → Nat) : Prop := h.1 27 7 = nI w ∧ h.1 27 8 = nI f ∧ h.1 27 9 = dv ∧ (∀ o, o < 6 → h.1 33 o = nI (rs N rm o)) ∧ ∀ s, s < 2 ^ N → h.1 28 s = nI (yv s)
theorem s_lrd {h : PH} {N w r f : Nat} {dv : Int32} {rm yv : Nat → Nat} (hN : N ≤ 8) (hw : w ≤ 3) (ha : pA h w N f dv rm yv) (hdg : ∀ p, p < N → dg w N r p < w) (h31 : ∀ x, x < 3 → h.1 31 x = nI (gr w N r x)) : f_X5_leavesRoomDark h = some (if lit w N rm r then 0 else 1) := by
  have h2 := p2_le hN
  have hrs : ∀ o, rs N rm o < 256 := fun o => by have := rs_lt N rm o; omega
  have lit_f : ∀ o x, o < 6 → x < 3 → 2 ≤ pc (rs N rm o) → dif (rs N rm o) (gr w N r x) = 0 → lit w N rm r = false := by
    intro o x ho hx h3 h4
    cases hl : lit w N rm r with
    | false => rfl
    | true => exact absurd h4 (lit_t.mp hl o ho x hx h3)
  have inner : ∀ o, o < 6 → ∃ s, lp_f (fun s => lb_X5_leavesRoomDark_10 (nI o) h s) fu_l 0 = some s ∧ ((lit w N rm r = false ∧ s = .inl 1) ∨ ((∃ z, s = .inr z) ∧ ∀ x, x < w → 2 ≤ pc (rs N rm o) → dif (rs N rm o) (gr w N r x) ≠ 0)) := by
    intro o ho
    have hpc := pc_le (rs N rm o)
    refine lp_0 (fun i s => s = nI i ∧ ∀ x, x < i → 2 ≤ pc (rs N rm o) → dif (rs N rm o) (gr w N r x) ≠ 0) _ w (by omega) ?_ ?_ _ ⟨rfl, fun x hx => by omega⟩
    · rintro i s hi ⟨rfl, e⟩
      have hdl := dif_le (rs N rm o) (gr w N r i)
      have hro := hrs o
      by_cases h4 : 2 ≤ pc (rs N rm o)
      · by_cases h5 : dif (rs N rm o) (gr w N r i) = 0
        · right
          refine ⟨.inl 1, ?_, Or.inl ⟨lit_f o i ho (by omega) h4 h5, rfl⟩⟩
          show lb_X5_leavesRoomDark_10 (nI o) h (nI i) = _
          unfold lb_X5_leavesRoomDark_10
          rw [ha.1, if_neg (nI_ge hi (by omega)), pu_gn ho (by decide), nI_clamp (by omega), ha.2.2.2.1 o ho, s_bc hro, pu_b1, if_neg (show ¬ nI (pc (rs N rm o)) < 2 from nI_nlt (b := 2) h4 (by omega)), pu_gn ho (by decide), pu_gn (show i < 3 by omega) (by decide), nI_clamp (by omega), h31 i (by omega), nI_dif, h5, if_pos (show nI 0 = 0 from rfl)]
        · left
          refine ⟨nI (i + 1), ?_, rfl, fun x hx h6 => ?_⟩
          · show lb_X5_leavesRoomDark_10 (nI o) h (nI i) = _
            unfold lb_X5_leavesRoomDark_10
            rw [ha.1, if_neg (nI_ge hi (by omega)), pu_gn ho (by decide), nI_clamp (by omega), ha.2.2.2.1 o ho, s_bc hro, pu_b1, if_neg (show ¬ nI (pc (rs N rm o)) < 2 from nI_nlt (b := 2) h4 (by omega)), pu_gn ho (by decide), pu_gn (show i < 3 by omega) (by decide), nI_clamp (by omega), h31 i (by omega), nI_dif, if_neg (nI_ne0 (by omega) (by omega)), pu_lt, ← nI_succ]
          · by_cases hxi : x = i
            · subst hxi; exact h5
            · exact e x (by omega) h6
      · left
        refine ⟨nI (i + 1), ?_, rfl, fun x hx h6 => absurd h6 h4⟩
        show lb_X5_leavesRoomDark_10 (nI o) h (nI i) = _
        unfold lb_X5_leavesRoomDark_10
        rw [ha.1, if_neg (nI_ge hi (by omega)), pu_gn ho (by decide), nI_clamp (by omega), ha.2.2.2.1 o ho, s_bc hro, pu_b1, if_pos (show nI (pc (rs N rm o)) < 2 from nI_lt (b := 2) (by omega) (by decide)), pu_lt, ← nI_succ]
    · rintro s ⟨rfl, e⟩
      refine ⟨.inr (nI w), ?_, Or.inr ⟨⟨_, rfl⟩, e⟩⟩
      show lb_X5_leavesRoomDark_10 (nI o) h (nI w) = _
      unfold lb_X5_leavesRoomDark_10
      rw [ha.1, if_pos (nI_le (Nat.le_refl _) (by omega))]
  have hL : ∃ s, lp_f (fun s => lb_X5_leavesRoomDark_2 h s) fu_l 0 = some s ∧ ((lit w N rm r = false ∧ s = .inl 1) ∨ (lit w N rm r = true ∧ ∃ z, s = .inr z)) := by
    refine lp_0 (fun i s => s = nI i ∧ ∀ o, o < i → ∀ x, x < w → 2 ≤ pc (rs N rm o) → dif (rs N rm o) (gr w N r x) ≠ 0) _ 6 (by omega) ?_ ?_ _ ⟨rfl, fun o ho => by omega⟩
    · rintro i s hi ⟨rfl, e⟩
      obtain ⟨u, u1, u2⟩ := inner i hi
      have body : lb_X5_leavesRoomDark_2 h (nI i) = sw_b u (fun r_27 => some (.inr (.inl r_27))) fun e_25 => some (.inl (nI (i + 1))) := by
        unfold lb_X5_leavesRoomDark_2
        rw [if_neg (show ¬ (6 : Int32) ≤ nI i from nI_ge (b := 6) hi (by decide)), u1, pu_b1, pu_lt, ← nI_succ]
      rcases u2 with ⟨a1, rfl⟩ | ⟨⟨z, rfl⟩, a2⟩
      · right
        exact ⟨.inl 1, body, Or.inl ⟨a1, rfl⟩⟩
      · left
        refine ⟨nI (i + 1), body, rfl, fun o ho => ?_⟩
        by_cases hoi : o = i
        · subst hoi; exact a2
        · exact e o (by omega)
    · rintro s ⟨rfl, e⟩
      refine ⟨.inr (nI 6), ?_, Or.inr ⟨lit_t.mpr (fun o ho x hx h3 => ?_), _, rfl⟩⟩
      · show lb_X5_leavesRoomDark_2 h (nI 6) = _
        unfold lb_X5_leavesRoomDark_2
        rw [if_pos (by decide)]
      · by_cases hxw : x < w
        · exact e o ho x hxw h3
        · have hg0 : gr w N r x = 0 := set_0 (fun p => by
            cases hp : (gr w N r x).testBit p with
            | false => rfl
            | true =>
              have := gr_bit.mp hp
              have := hdg p this.1
              omega)
          rw [hg0]
          intro hz
          have hro := hrs o
          have hr0 : rs N rm o = 0 := set_0 (fun p => by
            have h5 := dif_bit (s := rs N rm o) (t := 0) (by omega) p
            rw [hz, Nat.zero_testBit] at h5
            cases hp : (rs N rm o).testBit p with
            | false => rfl
            | true => rw [hp] at h5; cases h5)
          rw [hr0] at h3
          have : pc 0 = 0 := sl_zero _ 8
          omega
  obtain ⟨s, s1, s2⟩ := hL
  unfold f_X5_leavesRoomDark
  rw [s1, pu_b1]
  rcases s2 with ⟨q, rfl⟩ | ⟨q, z, rfl⟩
  · rw [q]; rfl
  · rw [q]; rfl
theorem s_keepL {h : PH} {N w r f v : Nat} {dv : Int32} {dk : Bool} {rm yv : Nat → Nat} (hN : N ≤ 8) (hw : w ≤ 3) (ha : pA h w N f dv rm yv) (hdk : dk = !decide (dv = 0)) (hdg : ∀ p, p < N → dg w N r p < w) (h31 : ∀ x, x < 3 → h.1 31 x = nI (gr w N r x)) : ∃ g, f_X5_keepIfLit (nI v) h = some ((), g) ∧ (∀ a, a ≠ 27 → a ≠ 29 → g.1 a = h.1 a) ∧ (∀ j, j ≠ 6 → g.1 27 j = h.1 27 j) ∧ g.2 = h.2 ∧ ((!dk || lit w N rm r) = false → g = h) ∧ ((!dk || lit w N rm r) = true → g.1 27 6 = nI v ∧ ∀ p, p < 8 → g.1 29 p = h.1 30 p) := by
  have take : ∃ g, (some ((), ph_r (ph_i h 27 6 (nI v)) 29 (va_cpy ((ph_i h 27 6 (nI v)).1 30) ((ph_i h 27 6 (nI v)).1 29) 0 0 8)) : Option (Unit × PH)) = some ((), g) ∧ (∀ a, a ≠ 27 → a ≠ 29 → g.1 a = h.1 a) ∧ (∀ j, j ≠ 6 → g.1 27 j = h.1 27 j) ∧ g.2 = h.2 ∧ (g.1 27 6 = nI v ∧ ∀ p, p < 8 → g.1 29 p = h.1 30 p) := by
    refine ⟨_, rfl, ?_, ?_, rfl, ?_, ?_⟩
    · intro a a1 a2
      rw [pr_rn a2, pr_ne a1]
    · intro j hj
      rw [pr_rn (by decide), pr_eq, if_neg hj]
    · rw [pr_rn (by decide), pr_eq, if_pos rfl]
    · intro p hp
      rw [pr_re]
      unfold va_cpy
      rw [if_pos (by omega), pr_ne (by decide), Nat.zero_add, Nat.sub_zero]
  have dr := s_lrd hN hw ha hdg h31
  unfold f_X5_keepIfLit
  rw [ha.2.2.1]
  by_cases hdv : dv = 0
  · have hd0 : dk = false := by rw [hdk]; simp [hdv]
    subst hd0
    obtain ⟨g, g1, g2, g3, g4, g5⟩ := take
    rw [if_pos hdv]
    exact ⟨g, g1, g2, g3, g4, fun q => (by simp at q), fun _ => g5⟩
  · have hd1 : dk = true := by rw [hdk]; simp [hdv]
    subst hd1
    rw [if_neg hdv, dr, pu_b1]
    cases hlit : lit w N rm r with
    | true =>
      obtain ⟨g, g1, g2, g3, g4, g5⟩ := take
      rw [if_pos (show true = true from rfl), if_pos rfl]
      exact ⟨g, g1, g2, g3, g4, fun q => (by cases q), fun _ => g5⟩
    | false =>
      rw [if_neg (show ¬ false = true by decide), if_neg (show ¬ (1 : Int32) = 0 by decide)]
      exact ⟨h, rfl, fun _ _ _ => rfl, fun _ _ => rfl, rfl, fun _ => rfl, fun q => (by cases q)⟩
/-- costs that are far count alike -/
theorem bs_ck {c e : Nat → Nat} (h : ∀ r, ck (c r) = ck (e r)) : ∀ m, bs c m = bs e m
  | 0 => rfl
  | m + 1 => by
    have ih := bs_ck h m
    have hb := bs_le e m
    have hm := h m
    unfold bs
    rw [ih]
    by_cases h1 : c m < (bs e m).1
    · have h2 : c m = e m := by
        unfold ck at hm
        omega
      rw [if_pos h1, h2, if_pos (by omega)]
    · rw [if_neg h1, if_neg (by unfold ck at hm; omega)]
theorem cP_ck {w N f : Nat} {dk : Bool} {ld rm yv : Nat → Nat} (r : Nat) : ck (cP w N f dk ld rm (fun s => ck (yv s)) r) = ck (cP w N f dk ld rm yv r) := by
  unfold cP
  split
  · show ck (ck (yv (gr w N r 0)) + ck (yv (gr w N r 1)) + ck (yv (gr w N r 2))) = _
    unfold ck
    omega
  · rfl
/-- groups by the first t points -/
def pg (w t q x : Nat) : Nat := sf (fun p => decide (dg w t q p = x)) t
theorem pg_bit {w t q x p : Nat} : (pg w t q x).testBit p = true ↔ p < t ∧ dg w t q p = x := by
  unfold pg
  rw [sf_bit, decide_eq_true_iff]
theorem pg_ch {w t q c x : Nat} (hc : c < w) : pg w (t + 1) (q * w + c) x = if x = c then pg w t q x ||| 2 ^ t else pg w t q x := by
  apply set_ext
  intro p
  rw [pg_bit]
  by_cases hx : x = c
  · rw [if_pos hx, add_bit, pg_bit]
    constructor
    · rintro ⟨h1, h2⟩
      by_cases hp : p = t
      · exact Or.inr hp
      · rw [dg_ch hc (by omega)] at h2
        exact Or.inl ⟨by omega, h2⟩
    · rintro (⟨h1, h2⟩ | rfl)
      · exact ⟨by omega, by rw [dg_ch hc h1]; exact h2⟩
      · exact ⟨by omega, by rw [dg_ct hc]; exact hx.symm⟩
  · rw [if_neg hx, pg_bit]
    constructor
    · rintro ⟨h1, h2⟩
      by_cases hp : p = t
      · subst hp
        rw [dg_ct hc] at h2
        exact absurd h2.symm hx
      · rw [dg_ch hc (by omega)] at h2
        exact ⟨by omega, h2⟩
    · rintro ⟨h1, h2⟩
      exact ⟨by omega, by rw [dg_ch hc h1]; exact h2⟩
theorem pg_sub {w N t q r x : Nat} (ht : t ≤ N) (hr : r / w ^ (N - t) = q) : sub (pg w t q x) (gr w N r x) := by
  intro p hp
  obtain ⟨h1, h2⟩ := pg_bit.mp hp
  exact gr_bit.mpr ⟨by omega, by rw [dg_pre h1 ht, hr]; exact h2⟩
theorem pow_w (w j q : Nat) : q * w ^ (j + 1) = (q * w) * w ^ j ∧ (q + 1) * w ^ (j + 1) = (q * w + w) * w ^ j := by
  constructor
  · rw [Nat.pow_succ, Nat.mul_assoc, Nat.mul_comm w]
  · rw [Nat.pow_succ, Nat.mul_comm (w ^ j) w, ← Nat.mul_assoc, Nat.add_mul, Nat.one_mul]
theorem x_set {N w f : Nat} {ld rm yw : Nat → Nat} {dv : Int32} {dk : Bool} (hN : N ≤ 8) (ym : ∀ s t, t < 2 ^ N → sub s t → yw s ≤ yw t) (yb : ∀ s, s < 2 ^ N → yw s ≤ 9000800) (hw1 : 1 ≤ w) (hw : w ≤ 3) (hf : f ≤ 99) (hdk : dk = !decide (dv = 0)) : ∀ (m F t q b : Nat) (h : PH), t + m = N → m < F → cS h N ld rm → pA h w N f dv rm yw → q < w ^ t → b ≤ w → (∀ p, p < t → dg w t q p < b) → (∀ x, x < 3 → h.1 31 x = nI (pg w t q x) ∧ h.1 32 x = nI (sl ld (pg w t q x) N) ∧ sl ld (pg w t q x) N ≤ f) → (∀ p, p < t → h.1 30 p = nI (dg w t q p)) → pS h w N (cP w N f dk ld rm yw) (q * w ^ m) → ∃ g, f_X5_settle F (nI t) (nI b) (nI (yw (pg w t q 0) + yw (pg w t q 1) + yw (pg w t q 2))) h = some ((), g) ∧ (∀ a, a ≠ 27 → a ≠ 29 → a ≠ 30 → a ≠ 31 → a ≠ 32 → g.1 a = h.1 a) ∧ (∀ j, j ≠ 6 → g.1 27 j = h.1 27 j) ∧ (∀ x, x < 3 → g.1 31 x = h.1 31 x ∧ g.1 32 x = h.1 32 x) ∧ (∀ p, p < t → g.1 30 p = h.1 30 p) ∧ g.2 = h.2 ∧ pS g w N (cP w N f dk ld rm yw) ((q + 1) * w ^ m) := by
  have h2 := p2_le hN
  have hw0 : 0 < w := by omega
  have pgl : ∀ t q x, t ≤ N → pg w t q x < 2 ^ N := fun t q x ht => set_lt (fun p hp => by have := (pg_bit.mp hp).1; omega)
  -- rows of a prefix cost no less than its points do
  have low : ∀ t q r, t ≤ N → r / w ^ (N - t) = q → yw (pg w t q 0) + yw (pg w t q 1) + yw (pg w t q 2) ≤ cP w N f dk ld rm yw r ∨ cP w N f dk ld rm yw r = 1000000 := by
    intro t q r ht hr
    unfold cP
    split
    · left
      have m : ∀ x, yw (pg w t q x) ≤ yw (gr w N r x) := fun x => ym _ _ (gr_lt w N r x) (pg_sub ht hr)
      have m0 := m 0
      have m1 := m 1
      have m2 := m 2
      omega
    · right; rfl
  intro m
  induction m with
  | zero =>
    intro F t q b h htm hF hc ha hq hbw hb hg hrow hS
    have ht : t = N := by omega
    subst ht
    obtain ⟨F', rfl⟩ : ∃ F', F = F' + 1 := ⟨F - 1, by omega⟩
    have epg : ∀ x, pg w t q x = gr w t q x := fun x => rfl
    rw [Nat.pow_zero, Nat.mul_one] at hS ⊢
    have hbl := bs_le (cP w t f dk ld rm yw) q
    have y0 := yb _ (pgl t q 0 (Nat.le_refl _))
    have y1 := yb _ (pgl t q 1 (Nat.le_refl _))
    have y2 := yb _ (pgl t q 2 (Nat.le_refl _))
    have hdef : cP w t f dk ld rm yw q = if (!dk || lit w t rm q) then yw (gr w t q 0) + yw (gr w t q 1) + yw (gr w t q 2) else 1000000 := by
      unfold cP
      rw [okL_t.mpr (fun x hx => (hg x hx).2.2), Bool.true_and]
    have bsn : bs (cP w t f dk ld rm yw) (q + 1) = if cP w t f dk ld rm yw q < (bs (cP w t f dk ld rm yw) q).1 then (cP w t f dk ld rm yw q, q) else bs (cP w t f dk ld rm yw) q := rfl
    rw [epg 0, epg 1, epg 2] at *
    generalize hv : yw (gr w t q 0) + yw (gr w t q 1) + yw (gr w t q 2) = v at *
    have hv31 : v < 2 ^ 31 := by omega
    by_cases hlt : v < (bs (cP w t f dk ld rm yw) q).1
    · obtain ⟨g, g1, g2, g3, g4, g5, g6⟩ := s_keepL (r := q) (v := v) hN hw ha hdk (fun p hp => by have := hb p hp; omega) (fun x hx => (hg x hx).1)
      refine ⟨g, ?_, fun a a1 a2 _ _ _ => g2 a a1 a2, g3, fun x hx => ⟨by rw [g2 31 (by decide) (by decide)], by rw [g2 32 (by decide) (by decide)]⟩, fun p hp => by rw [g2 30 (by decide) (by decide)], g4, ?_⟩
      · unfold f_X5_settle
        rw [hS.1, if_pos (nI_lt hlt (by omega)), hc.2.1, if_pos (nI_le (Nat.le_refl _) (by omega)), g1, pu_b2]
      · unfold pS
        rw [bsn, hdef]
        cases hl : (!dk || lit w t rm q) with
        | true =>
          obtain ⟨k1, k2⟩ := g6 hl
          rw [if_pos (show true = true from rfl), if_pos hlt]
          exact ⟨k1, fun _ p hp => by rw [k2 p (by omega)]; exact hrow p hp⟩
        | false =>
          rw [if_neg (show ¬ false = true by decide), if_neg (show ¬ 1000000 < (bs (cP w t f dk ld rm yw) q).1 by omega), g5 hl]
          exact hS
    · refine ⟨h, ?_, fun _ _ _ _ _ _ => rfl, fun _ _ => rfl, fun _ _ => ⟨rfl, rfl⟩, fun _ _ => rfl, rfl, ?_⟩
      · unfold f_X5_settle
        rw [hS.1, if_neg (nI_nlt (by omega) hv31)]
      · unfold pS
        have : ¬ cP w t f dk ld rm yw q < (bs (cP w t f dk ld rm yw) q).1 := by
          rw [hdef]
          split <;> omega
        rw [bsn, if_neg this]
        exact hS
  | succ m ih =>
    intro F t q b h htm hF hc ha hq hbw hb hg hrow hS
    obtain ⟨F', rfl⟩ : ∃ F', F = F' + 1 := ⟨F - 1, by omega⟩
    obtain ⟨pw1, pw2⟩ := pow_w w m q
    have hbl := bs_le (cP w N f dk ld rm yw) (q * w ^ (m + 1))
    have y0 := yb _ (pgl t q 0 (by omega))
    have y1 := yb _ (pgl t q 1 (by omega))
    have y2 := yb _ (pgl t q 2 (by omega))
    generalize hv : yw (pg w t q 0) + yw (pg w t q 1) + yw (pg w t q 2) = v at *
    have hv31 : v < 2 ^ 31 := by omega
    by_cases hlt : v < (bs (cP w N f dk ld rm yw) (q * w ^ (m + 1))).1
    rotate_left
    · -- a sum that is no less than the least is left
      refine ⟨h, ?_, fun _ _ _ _ _ _ => rfl, fun _ _ => rfl, fun _ _ => ⟨rfl, rfl⟩, fun _ _ => rfl, rfl, ?_⟩
      · unfold f_X5_settle
        rw [hS.1, if_neg (nI_nlt (by omega) hv31)]
      · unfold pS
        rw [bs_pre hw0 (fun r hr => ?_)]
        · exact hS
        · have hr2 : r / w ^ (N - t) = q := by rw [show N - t = m + 1 by omega]; exact hr
          have := low t q r (by omega) hr2
          rw [hv] at this
          rcases this with z | z <;> omega
    · have noop : ∀ x, x < w → (∀ r, r / w ^ m = q * w + x → (bs (cP w N f dk ld rm yw) ((q * w + x) * w ^ m)).1 ≤ cP w N f dk ld rm yw r) → bs (cP w N f dk ld rm yw) ((q * w + x + 1) * w ^ m) = bs (cP w N f dk ld rm yw) ((q * w + x) * w ^ m) := fun x _ hx => bs_pre hw0 hx
      have hld := hc.2.2 t (by omega)
      have hL : ∃ s, lp_f (fun s => lb_X5_settle_34 (f_X5_settle F') (nI t) (nI b) (nI v) s.1 s.2) fu_l (0, h) = some s ∧ ((∀ a, a ≠ 27 → a ≠ 29 → a ≠ 30 → a ≠ 31 → a ≠ 32 → s.2.1 a = h.1 a) ∧ (∀ j, j ≠ 6 → s.2.1 27 j = h.1 27 j) ∧ (∀ x, x < 3 → s.2.1 31 x = h.1 31 x ∧ s.2.1 32 x = h.1 32 x) ∧ (∀ p, p < t → s.2.1 30 p = h.1 30 p) ∧ s.2.2 = h.2 ∧ pS s.2 w N (cP w N f dk ld rm yw) ((q * w + min w (b + 1)) * w ^ m)) := by
        refine lp_0 (fun i s => s.1 = nI i ∧ (∀ a, a ≠ 27 → a ≠ 29 → a ≠ 30 → a ≠ 31 → a ≠ 32 → s.2.1 a = h.1 a) ∧ (∀ j, j ≠ 6 → s.2.1 27 j = h.1 27 j) ∧ (∀ x, x < 3 → s.2.1 31 x = h.1 31 x ∧ s.2.1 32 x = h.1 32 x) ∧ (∀ p, p < t → s.2.1 30 p = h.1 30 p) ∧ s.2.2 = h.2 ∧ pS s.2 w N (cP w N f dk ld rm yw) ((q * w + i) * w ^ m)) _ (min w (b + 1)) (by omega) ?_ ?_ _ ⟨rfl, fun _ _ _ _ _ _ => rfl, fun _ _ => rfl, fun _ _ => ⟨rfl, rfl⟩, fun _ _ => rfl, rfl, by rw [Nat.add_zero, ← pw1]; exact hS⟩
        · rintro i ⟨z, g⟩ hi ⟨e0, e1, e2, e3, e4, e5, e6⟩
          left
          obtain rfl : z = nI i := e0
          have e1 : ∀ a, a ≠ 27 → a ≠ 29 → a ≠ 30 → a ≠ 31 → a ≠ 32 → g.1 a = h.1 a := e1
          have e2 : ∀ j, j ≠ 6 → g.1 27 j = h.1 27 j := e2
          have e3 : ∀ x, x < 3 → g.1 31 x = h.1 31 x ∧ g.1 32 x = h.1 32 x := e3
          have e4 : ∀ p, p < t → g.1 30 p = h.1 30 p := e4
          have e5 : g.2 = h.2 := e5
          have e6 : pS g w N (cP w N f dk ld rm yw) ((q * w + i) * w ^ m) := e6
          have hiw : i < w := by omega
          have hi3 : i < 3 := by omega
          have g31 := (e3 i hi3).1
          have g32 := (e3 i hi3).2
          rw [(hg i hi3).1] at g31
          rw [(hg i hi3).2.1] at g32
          have g19 : g.1 19 t = nI (ld t) := by rw [e1 19 (by decide) (by decide) (by decide) (by decide) (by decide)]; exact hld.1
          have hsl := (hg i hi3).2.2
          have pgi := pgl t q i (by omega)
          have ptb : (pg w t q i).testBit t = false := by
            cases hp : (pg w t q i).testBit t with
            | false => rfl
            | true => have := (pg_bit.mp hp).1; omega
          have slc : sl ld (pg w t q i ||| 2 ^ t) N = sl ld (pg w t q i) N + ld t := by rw [sl_add ptb, if_pos (by omega)]
          have hA7 : g.1 27 7 = nI w := by rw [e2 7 (by decide)]; exact ha.1
          have hA8 : g.1 27 8 = nI f := by rw [e2 8 (by decide)]; exact ha.2.1
          have chl := pgl (t + 1) (q * w + i) i (by omega)
          rw [pg_ch hiw, if_pos rfl] at chl
          by_cases hover : sl ld (pg w t q i) N + ld t ≤ f
          · -- the point comes on the way i
            generalize hk3 : ph_i (ph_i (ph_i g 31 i (nI (pg w t q i ||| 2 ^ t))) 32 i (nI (sl ld (pg w t q i) N + ld t))) 30 t (nI i) = k3
            have f1 : ∀ a, a ≠ 30 → a ≠ 31 → a ≠ 32 → k3.1 a = g.1 a := fun a a1 a2 a3 => by rw [← hk3, pr_ne a1, pr_ne a3, pr_ne a2]
            have f2 : k3.2 = g.2 := by rw [← hk3]; rfl
            have f31 : ∀ x, k3.1 31 x = if x = i then nI (pg w t q i ||| 2 ^ t) else g.1 31 x := fun x => by rw [← hk3, pr_ne (by decide), pr_ne (by decide), pr_eq]
            have f32 : ∀ x, k3.1 32 x = if x = i then nI (sl ld (pg w t q i) N + ld t) else g.1 32 x := fun x => by rw [← hk3, pr_ne (by decide), pr_eq, pr_ne (by decide)]
            have f30 : ∀ p, k3.1 30 p = if p = t then nI i else g.1 30 p := fun p => by rw [← hk3, pr_eq, pr_ne (by decide), pr_ne (by decide)]
            have sume : v - yw (pg w t q i) + yw (pg w t q i ||| 2 ^ t) = yw (pg w (t + 1) (q * w + i) 0) + yw (pg w (t + 1) (q * w + i) 1) + yw (pg w (t + 1) (q * w + i) 2) := by
              rw [pg_ch hiw, pg_ch hiw, pg_ch hiw, ← hv]
              have : i = 0 ∨ i = 1 ∨ i = 2 := by omega
              rcases this with rfl | rfl | rfl
              · rw [if_pos rfl, if_neg (by decide), if_neg (by decide)]; omega
              · rw [if_neg (by decide), if_pos rfl, if_neg (by decide)]; omega
              · rw [if_neg (by decide), if_neg (by decide), if_pos rfl]; omega
            have yle : yw (pg w t q i) ≤ v := by
              rw [← hv]
              have : i = 0 ∨ i = 1 ∨ i = 2 := by omega
              rcases this with rfl | rfl | rfl <;> omega
            have A3 : pA k3 w N f dv rm yw := by
              obtain ⟨x1, x2, x3, x4, x5⟩ := ha
              refine ⟨?_, ?_, ?_, fun o ho => ?_, fun s hs => ?_⟩
              · rw [f1 27 (by decide) (by decide) (by decide), e2 7 (by decide)]; exact x1
              · rw [f1 27 (by decide) (by decide) (by decide), e2 8 (by decide)]; exact x2
              · rw [f1 27 (by decide) (by decide) (by decide), e2 9 (by decide)]; exact x3
              · rw [f1 33 (by decide) (by decide) (by decide), e1 33 (by decide) (by decide) (by decide) (by decide) (by decide)]; exact x4 o ho
              · rw [f1 28 (by decide) (by decide) (by decide), e1 28 (by decide) (by decide) (by decide) (by decide) (by decide)]; exact x5 s hs
            have C3 : cS k3 N ld rm := cS_fr hc (by rw [f1 17 (by decide) (by decide) (by decide), e1 17 (by decide) (by decide) (by decide) (by decide) (by decide)]) (by rw [f1 19 (by decide) (by decide) (by decide), e1 19 (by decide) (by decide) (by decide) (by decide) (by decide)]) (by rw [f1 20 (by decide) (by decide) (by decide), e1 20 (by decide) (by decide) (by decide) (by decide) (by decide)])
            have qw : q * w + i < w ^ (t + 1) := by
              rw [Nat.pow_succ]
              have : (q + 1) * w ≤ w ^ t * w := Nat.mul_le_mul_right w hq
              rw [Nat.add_mul, Nat.one_mul] at this
              omega
            obtain ⟨k, k1, k2, k2', k4, k5, k6, k7⟩ := ih F' (t + 1) (q * w + i) (if b < i + 1 then i + 1 else b) k3 (by omega) (by omega) C3 A3 qw (by split <;> omega) (fun p hp => by
              by_cases hpt : p = t
              · subst hpt; rw [dg_ct hiw]; split <;> omega
              · have := hb p (by omega)
                rw [dg_ch hiw (by omega)]
                split <;> omega) (fun x hx => by
              rw [f31, f32, pg_ch hiw]
              by_cases hxi : x = i
              · subst hxi
                rw [if_pos rfl, if_pos rfl, if_pos rfl, slc]
                exact ⟨rfl, rfl, hover⟩
              · rw [if_neg hxi, if_neg hxi, if_neg hxi, (e3 x hx).1, (e3 x hx).2]
                exact hg x hx) (fun p hp => by
              rw [f30]
              by_cases hpt : p = t
              · subst hpt; rw [if_pos rfl, dg_ct hiw]
              · rw [if_neg hpt, dg_ch hiw (by omega), e4 p (by omega)]
                exact hrow p (by omega)) (by
              unfold pS
              rw [f1 27 (by decide) (by decide) (by decide), f1 29 (by decide) (by decide) (by decide)]
              exact e6)
            have k31 := (k4 i hi3).1
            have k32 := (k4 i hi3).2
            rw [f31, if_pos rfl] at k31
            rw [f32, if_pos rfl] at k32
            have k19 : k.1 19 t = nI (ld t) := by rw [k2 19 (by decide) (by decide) (by decide) (by decide) (by decide), f1 19 (by decide) (by decide) (by decide)]; exact g19
            generalize hkk : ph_i (ph_i k 31 i (nI (pg w t q i))) 32 i (nI (sl ld (pg w t q i) N)) = kk
            have d1 : ∀ a, a ≠ 31 → a ≠ 32 → kk.1 a = k.1 a := fun a a1 a2 => by rw [← hkk, pr_ne a2, pr_ne a1]
            have d31 : ∀ x, kk.1 31 x = if x = i then nI (pg w t q i) else k.1 31 x := fun x => by rw [← hkk, pr_ne (by decide), pr_eq]
            have d32 : ∀ x, kk.1 32 x = if x = i then nI (sl ld (pg w t q i) N) else k.1 32 x := fun x => by rw [← hkk, pr_eq, pr_ne (by decide)]
            refine ⟨(nI (i + 1), kk), ?_, rfl, ?_, ?_, ?_, ?_, ?_, ?_⟩
            · show lb_X5_settle_34 (f_X5_settle F') (nI t) (nI b) (nI v) (nI i) g = _
              have e_or : (nI (pg w t q i) ||| ((1 : Int32) <<< (nI t &&& 31))) = nI (pg w t q i ||| 2 ^ t) := bt_o (by omega) (by omega)
              have k28 : k3.1 28 = g.1 28 := f1 28 (by decide) (by decide) (by decide)
              have g28 : ∀ s, s < 2 ^ N → k3.1 28 s = nI (yw s) := A3.2.2.2.2
              have eb : (if nI b < nI i + 1 then nI i + 1 else nI b) = nI (if b < i + 1 then i + 1 else b) := by
                rw [← nI_succ]
                by_cases hz : b < i + 1
                · rw [if_pos (nI_lt hz (by omega)), if_pos hz]
                · rw [if_neg (nI_nlt (by omega) (by omega)), if_neg hz]
              have es : nI v - nI (yw (pg w t q i)) + nI (yw (pg w t q i ||| 2 ^ t)) = nI (yw (pg w (t + 1) (q * w + i) 0) + yw (pg w (t + 1) (q * w + i) 1) + yw (pg w (t + 1) (q * w + i) 2)) := by
                rw [nI_sub yle, nI_add, sume]
              unfold lb_X5_settle_34
              rw [hA7, if_neg (nI_ge hiw (by omega)), if_neg (nI_nlt (show i ≤ b by omega) (by omega)), pu_gn hi3 (by decide), pu_gn (show t < 8 by omega) (by decide), hA8, nI_clamp (by omega), nI_clamp (by omega), g32, g19, nI_add, if_neg (nI_nlt hover (by omega)), pu_gn hi3 (by decide), g31, pu_lt, e_or, pu_lt, pu_gn hi3 (by decide), pu_lt, pu_gn hi3 (by decide), pu_gn (show t < 8 by omega) (by decide), pu_gn hi3 (by decide), pr_ne (show (32 : Nat) ≠ 31 by decide), pr_ne (show (19 : Nat) ≠ 31 by decide), g32, g19, nI_add, pu_lt, pu_gn (show t < 8 by omega) (by decide), hk3, pu_lt, pu_gn (show pg w t q i < 256 by omega) (by decide), pu_gn (show pg w t q i ||| 2 ^ t < 256 by omega) (by decide), nI_clamp (by omega), nI_clamp (by omega), g28 _ pgi, g28 _ chl, es, eb, ← nI_succ, k1, pu_b2, pu_gn hi3 (by decide), pu_lt, pu_gn hi3 (by decide), pu_gn (show t < 8 by omega) (by decide), pu_gn hi3 (by decide), pr_ne (show (32 : Nat) ≠ 31 by decide), pr_ne (show (19 : Nat) ≠ 31 by decide), k32, k19, nI_sub (by omega), Nat.add_sub_cancel, hkk, pu_lt, pu_lt, ← nI_succ]
            · intro a a1 a2 a3 a4 a5
              show kk.1 a = _
              rw [d1 a a4 a5, k2 a a1 a2 a3 a4 a5, f1 a a3 a4 a5]
              exact e1 a a1 a2 a3 a4 a5
            · intro j hj
              show kk.1 27 j = _
              rw [d1 27 (by decide) (by decide), k2' j hj, f1 27 (by decide) (by decide) (by decide)]
              exact e2 j hj
            · intro x hx
              show kk.1 31 x = _ ∧ kk.1 32 x = _
              rw [d31, d32]
              by_cases hxi : x = i
              · subst hxi
                rw [if_pos rfl, if_pos rfl]
                exact ⟨(hg x hx).1.symm, (hg x hx).2.1.symm⟩
              · rw [if_neg hxi, if_neg hxi, (k4 x hx).1, (k4 x hx).2, f31, f32, if_neg hxi, if_neg hxi]
                exact e3 x hx
            · intro p hp
              show kk.1 30 p = _
              rw [d1 30 (by decide) (by decide), k5 p (by omega), f30, if_neg (by omega)]
              exact e4 p hp
            · show kk.2 = _
              rw [← hkk]
              show k.2 = _
              rw [k6, f2]
              exact e5
            · show pS kk w N _ ((q * w + (i + 1)) * w ^ m)
              unfold pS
              rw [d1 27 (by decide) (by decide), d1 29 (by decide) (by decide), ← Nat.add_assoc]
              exact k7
          · -- it bears too much
            refine ⟨(nI (i + 1), g), ?_, rfl, e1, e2, e3, e4, e5, ?_⟩
            · show lb_X5_settle_34 (f_X5_settle F') (nI t) (nI b) (nI v) (nI i) g = _
              unfold lb_X5_settle_34
              rw [hA7, if_neg (nI_ge hiw (by omega)), if_neg (nI_nlt (show i ≤ b by omega) (by omega)), pu_gn hi3 (by decide), pu_gn (show t < 8 by omega) (by decide), hA8, nI_clamp (by omega), nI_clamp (by omega), g32, g19, nI_add, if_pos (nI_lt (by omega) (by omega)), pu_lt, ← nI_succ]
            · show pS g w N _ ((q * w + (i + 1)) * w ^ m)
              unfold pS
              rw [← Nat.add_assoc, noop i hiw (fun r hr => ?_)]
              · exact e6
              · have hr2 : r / w ^ (N - (t + 1)) = q * w + i := by rw [show N - (t + 1) = m by omega]; exact hr
                have hs := pg_sub (x := i) (show t + 1 ≤ N by omega) hr2
                rw [pg_ch hiw, if_pos rfl] at hs
                have l1 := sl_mono (ld := ld) hs N
                rw [slc] at l1
                have : cP w N f dk ld rm yw r = 1000000 := by
                  unfold cP
                  cases hk : okL w N ld f r with
                  | false => rfl
                  | true =>
                    have := okL_t.mp hk i hi3
                    omega
                rw [this]
                exact bs_le _ _
        · rintro ⟨z, g⟩ ⟨e0, e1, e2, e3, e4, e5, e6⟩
          obtain rfl : z = nI (min w (b + 1)) := e0
          have e2 : ∀ j, j ≠ 6 → g.1 27 j = h.1 27 j := e2
          refine ⟨(nI (min w (b + 1)), g), ?_, e1, e2, e3, e4, e5, e6⟩
          have hA7 : g.1 27 7 = nI w := by rw [e2 7 (by decide)]; exact ha.1
          show lb_X5_settle_34 (f_X5_settle F') (nI t) (nI b) (nI v) (nI (min w (b + 1))) g = _
          unfold lb_X5_settle_34
          rw [hA7]
          by_cases hz : w ≤ b + 1
          · rw [Nat.min_eq_left hz, if_pos (nI_le (Nat.le_refl _) (by omega))]
          · rw [Nat.min_eq_right (by omega), if_neg (nI_ge (by omega) (by omega)), if_pos (nI_lt (by omega) (by omega))]
      obtain ⟨s, s1, s2, s3, s4, s5, s6, s7⟩ := hL
      refine ⟨s.2, ?_, s2, s3, s4, s5, s6, ?_⟩
      · unfold f_X5_settle
        rw [hS.1, if_pos (nI_lt hlt (by omega)), hc.2.1, if_neg (nI_ge (show t < N by omega) (by omega)), if_pos (show nI t < 8 from nI_lt (b := 8) (by omega) (by decide)), s1, pu_b1]
      · have rest : ∀ e, min w (b + 1) + e ≤ w → bs (cP w N f dk ld rm yw) ((q * w + (min w (b + 1) + e)) * w ^ m) = bs (cP w N f dk ld rm yw) ((q * w + min w (b + 1)) * w ^ m) := by
          intro e
          induction e with
          | zero => intro _; rfl
          | succ e ihe =>
            intro he
            rw [← ihe (by omega), show q * w + (min w (b + 1) + (e + 1)) = q * w + (min w (b + 1) + e) + 1 by omega]
            refine noop (min w (b + 1) + e) (by omega) (fun r hr => ?_)
            have := no_turn (N := N) (f := f) (dk := dk) (ld := ld) (rm := rm) (yv := yw) (x := min w (b + 1) + e) (b := b) (t := t) (by omega) hw (by omega) (by omega) hq hb (r := r) (by rw [show N - t - 1 = m by omega]; exact hr)
            rw [show N - t - 1 = m by omega] at this
            exact this
        have := rest (w - min w (b + 1)) (by omega)
        rw [show min w (b + 1) + (w - min w (b + 1)) = w by omega] at this
        unfold pS
        rw [pw2, this]
        exact s7
