/-! PLANS: more points never need less cable; what a row of ways costs; rows alike but for the ways' names -/
theorem Ty_mono1 {P N B : Nat} {D : Nat → Nat → Nat} {pl : Nat → Nat} (hn : nD P D) (hB : B < P) (hN : N ≤ 8) (hpl : ∀ p, p < N → pl p < P) : ∀ (n s a p : Nat), s < 2 ^ N → pc s ≤ n → (a < N ∨ a = 8) → s.testBit p = true → Ty D B pl 0 (rm1 s p) a ≤ Ty D B pl 0 s a := by
  have h2 := p2_le hN
  intro n
  induction n with
  | zero =>
    intro s a p hs hpc ha hp
    have := pc_rm (show s < 256 by omega) hp
    omega
  | succ n ih =>
    intro s a p hs hpc ha hp
    have h0 : s ≠ 0 := fun q => by subst q; rw [Nat.zero_testBit] at hp; cases hp
    have hT : Ty D B pl 0 s a = mnq s (fun q => Gy D B pl a q + Ty D B pl 0 (rm1 s q) q) 8 := Tl_s _ _ (by omega) h0 a
    have hpN := bit_lt hs hp
    have hrl := rm_le s p
    by_cases hz : rm1 s p = 0
    · rw [hz, show Ty D B pl 0 0 a = Hy D B pl 0 a from Tl_0 _ _ a]
      exact Nat.zero_le _
    · have hT2 : Ty D B pl 0 (rm1 s p) a = mnq (rm1 s p) (fun q => Gy D B pl a q + Ty D B pl 0 (rm1 (rm1 s p) q) q) 8 := Tl_s _ _ (by omega) hz a
      rcases mnq_at (s := s) (f := fun q => Gy D B pl a q + Ty D B pl 0 (rm1 s q) q) 8 with hw | ⟨q, q1, q2, q3⟩
      · have g := Ty_good hn.1 hB hN hpl 0 (s := rm1 s p) (a := a) (by omega) ha
        rw [hT, hw]
        omega
      · rw [hT, q3]
        show _ ≤ Gy D B pl a q + Ty D B pl 0 (rm1 s q) q
        have hqN := bit_lt hs q2
        by_cases hqp : q = p
        · subst hqp
          -- the point that goes comes first: straight on to the next one
          have hT3 : Ty D B pl 0 (rm1 s q) q = mnq (rm1 s q) (fun t => Gy D B pl q t + Ty D B pl 0 (rm1 (rm1 s q) t) t) 8 := Tl_s _ _ (by omega) hz q
          rcases mnq_at (s := rm1 s q) (f := fun t => Gy D B pl q t + Ty D B pl 0 (rm1 (rm1 s q) t) t) 8 with hw | ⟨t, t1, t2, t3⟩
          · have g := Ty_good hn.1 hB hN hpl 0 (s := rm1 s q) (a := a) (by omega) ha
            rw [hT3, hw]
            omega
          · have tN := bit_lt (show rm1 s q < 2 ^ N by omega) t2
            have l1 := mnq_le (s := rm1 s q) (f := fun t => Gy D B pl a t + Ty D B pl 0 (rm1 (rm1 s q) t) t) 8 t t1 t2
            have l1 : mnq (rm1 s q) (fun t => Gy D B pl a t + Ty D B pl 0 (rm1 (rm1 s q) t) t) 8 ≤ Gy D B pl a t + Ty D B pl 0 (rm1 (rm1 s q) t) t := l1
            have tri := hn.2.1 _ _ _ (pb_lt hB hpl ha) (hpl q hqN) (hpl t tN)
            have e1 : Gy D B pl q t = Yd D (pl q) (pl t) := by
              unfold Gy
              rw [if_neg (by omega)]
            rw [hT3, t3, hT2]
            show _ ≤ Gy D B pl a q + (Gy D B pl q t + Ty D B pl 0 (rm1 (rm1 s q) t) t)
            rw [e1]
            have e2 : Gy D B pl a t = Yd D (if a = 8 then B else pl a) (pl t) := rfl
            have e3 : Gy D B pl a q = Yd D (if a = 8 then B else pl a) (pl q) := rfl
            omega
        · have qb : (rm1 s p).testBit q = true := (rm_bit (by omega) q).mpr ⟨q2, hqp⟩
          have pb : (rm1 s q).testBit p = true := (rm_bit (by omega) p).mpr ⟨hp, fun z => hqp z.symm⟩
          have hrq := rm_le s q
          have hpq := pc_rm (show s < 256 by omega) q2
          have l1 := mnq_le (s := rm1 s p) (f := fun q => Gy D B pl a q + Ty D B pl 0 (rm1 (rm1 s p) q) q) 8 q q1 qb
          have l1 : mnq (rm1 s p) (fun q => Gy D B pl a q + Ty D B pl 0 (rm1 (rm1 s p) q) q) 8 ≤ Gy D B pl a q + Ty D B pl 0 (rm1 (rm1 s p) q) q := l1
          have l2 := ih (rm1 s q) q p (by omega) (by omega) (Or.inl hqN) pb
          have e : rm1 (rm1 s p) q = rm1 (rm1 s q) p := by
            have b1 := rm_le s p
            apply set_ext
            intro z
            rw [rm_bit (by omega), rm_bit (by omega), rm_bit (by omega), rm_bit (by omega)]
            constructor
            · rintro ⟨⟨x1, x2⟩, x3⟩; exact ⟨⟨x1, x3⟩, x2⟩
            · rintro ⟨⟨x1, x2⟩, x3⟩; exact ⟨⟨x1, x3⟩, x2⟩
          rw [hT2]
          rw [e] at l1
          omega
/-- least cable of a set by a chain -/
abbrev yv (D : Nat → Nat → Nat) (B : Nat) (pl : Nat → Nat) (s : Nat) : Nat := Ty D B pl 0 s 8
theorem yv_0 (D : Nat → Nat → Nat) (B : Nat) (pl : Nat → Nat) : yv D B pl 0 = 0 := by
  show Tl _ _ 0 8 = 0
  rw [Tl_0]
  rfl
theorem yv_mono {P N B : Nat} {D : Nat → Nat → Nat} {pl : Nat → Nat} (hn : nD P D) (hB : B < P) (hN : N ≤ 8) (hpl : ∀ p, p < N → pl p < P) : ∀ (n s t : Nat), pc t ≤ n → t < 2 ^ N → sub s t → yv D B pl s ≤ yv D B pl t := by
  have h2 := p2_le hN
  intro n
  induction n with
  | zero =>
    intro s t hpc ht hst
    have h0 : t = 0 := pc_0 (by omega) (by omega)
    subst h0
    have : s = 0 := set_0 (fun p => by
      cases hp : s.testBit p with
      | false => rfl
      | true => have := hst p hp; rw [Nat.zero_testBit] at this; cases this)
    rw [this]
    exact Nat.le_refl _
  | succ n ih =>
    intro s t hpc ht hst
    by_cases he : s = t
    · rw [he]; exact Nat.le_refl _
    · have hex : ∃ p, t.testBit p = true ∧ s.testBit p = false := by
        apply Classical.byContradiction
        intro hno
        apply he
        apply set_ext
        intro p
        refine ⟨hst p, fun hp => ?_⟩
        cases hs : s.testBit p with
        | true => rfl
        | false => exact absurd ⟨p, hp, hs⟩ hno
      obtain ⟨p, p1, p2⟩ := hex
      have hrl := rm_le t p
      have hpr := pc_rm (show t < 256 by omega) p1
      have l1 := ih s (rm1 t p) (by omega) (by omega) (fun z hz => (rm_bit (by omega) z).mpr ⟨hst z hz, fun q => by subst q; rw [p2] at hz; cases hz⟩)
      have l2 := Ty_mono1 hn hB hN hpl 8 t 8 p ht (pc_le t) (Or.inr rfl) p1
      exact Nat.le_trans l1 l2
/-- the points on the way x by the row r -/
def gr (w N r x : Nat) : Nat := sf (fun p => decide (dg w N r p = x)) N
theorem gr_bit {w N r x p : Nat} : (gr w N r x).testBit p = true ↔ p < N ∧ dg w N r p = x := by
  unfold gr
  rw [sf_bit, decide_eq_true_iff]
theorem gr_lt (w N r x : Nat) : gr w N r x < 2 ^ N := sf_lt _ N
/-- the points of a room -/
def rs (N : Nat) (rm : Nat → Nat) (o : Nat) : Nat := sf (fun p => decide (rm p = o)) N
theorem rs_lt (N : Nat) (rm : Nat → Nat) (o : Nat) : rs N rm o < 2 ^ N := sf_lt _ N
/-- no way bears too much; no room is dark -/
noncomputable def okL (w N : Nat) (ld : Nat → Nat) (f r : Nat) : Bool := @decide (∀ x, x < 3 → sl ld (gr w N r x) N ≤ f) (Classical.propDecidable _)
noncomputable def lit (w N : Nat) (rm : Nat → Nat) (r : Nat) : Bool := @decide (∀ o, o < 6 → ∀ x, x < 3 → 2 ≤ pc (rs N rm o) → dif (rs N rm o) (gr w N r x) ≠ 0) (Classical.propDecidable _)
theorem okL_t {w N : Nat} {ld : Nat → Nat} {f r : Nat} : okL w N ld f r = true ↔ ∀ x, x < 3 → sl ld (gr w N r x) N ≤ f := by
  unfold okL
  exact @decide_eq_true_iff _ (Classical.propDecidable _)
theorem lit_t {w N : Nat} {rm : Nat → Nat} {r : Nat} : lit w N rm r = true ↔ ∀ o, o < 6 → ∀ x, x < 3 → 2 ≤ pc (rs N rm o) → dif (rs N rm o) (gr w N r x) ≠ 0 := by
  unfold lit
  exact @decide_eq_true_iff _ (Classical.propDecidable _)
/-- what the row r costs -/
noncomputable def cP (w N f : Nat) (dk : Bool) (ld rm : Nat → Nat) (yv : Nat → Nat) (r : Nat) : Nat := if okL w N ld f r && (!dk || lit w N rm r) then yv (gr w N r 0) + yv (gr w N r 1) + yv (gr w N r 2) else 1000000
/-- the names of two ways changed -/
def swp (b x y : Nat) : Nat := if y = b then x else if y = x then b else y
theorem swp_i {b x y : Nat} : swp b x (swp b x y) = y := by
  unfold swp
  by_cases h1 : y = b
  · rw [if_pos h1]
    by_cases h2 : x = b
    · rw [if_pos h2]; omega
    · rw [if_neg h2, if_pos rfl, h1]
  · rw [if_neg h1]
    by_cases h2 : y = x
    · rw [if_pos h2, if_pos rfl, h2]
    · rw [if_neg h2, if_neg h1, if_neg h2]
theorem cP_swp {w N f b x r r2 : Nat} {dk : Bool} {ld rm yv : Nat → Nat} (hbx : b < x) (hx : x < 3) (h : ∀ p, p < N → dg w N r2 p = swp b x (dg w N r p)) : cP w N f dk ld rm yv r2 = cP w N f dk ld rm yv r := by
  have hg : ∀ y, gr w N r2 y = gr w N r (swp b x y) := by
    intro y
    apply set_ext
    intro p
    rw [gr_bit, gr_bit]
    constructor
    · rintro ⟨h1, h2⟩
      exact ⟨h1, by rw [← h2, h p h1, swp_i]⟩
    · rintro ⟨h1, h2⟩
      exact ⟨h1, by rw [h p h1, h2, swp_i]⟩
  have s3 : ∀ y, y < 3 → swp b x y < 3 := by
    intro y hy
    unfold swp
    split
    · exact hx
    · split
      · omega
      · exact hy
  have e1 : okL w N ld f r2 = okL w N ld f r := by
    cases h1 : okL w N ld f r with
    | true =>
      rw [okL_t] at h1 ⊢
      exact fun y hy => by rw [hg]; exact h1 _ (s3 y hy)
    | false =>
      cases h2 : okL w N ld f r2 with
      | false => rfl
      | true =>
        rw [okL_t] at h2
        have : okL w N ld f r = true := okL_t.mpr (fun y hy => by have := h2 _ (s3 y hy); rw [hg, swp_i] at this; exact this)
        rw [this] at h1
        cases h1
  have e2 : lit w N rm r2 = lit w N rm r := by
    cases h1 : lit w N rm r with
    | true =>
      rw [lit_t] at h1 ⊢
      exact fun o ho y hy => by rw [hg]; exact h1 o ho _ (s3 y hy)
    | false =>
      cases h2 : lit w N rm r2 with
      | false => rfl
      | true =>
        rw [lit_t] at h2
        have : lit w N rm r = true := lit_t.mpr (fun o ho y hy => by have := h2 o ho _ (s3 y hy); rw [hg, swp_i] at this; exact this)
        rw [this] at h1
        cases h1
  unfold cP
  rw [e1, e2, hg 0, hg 1, hg 2]
  have : (b = 0 ∧ x = 1) ∨ (b = 0 ∧ x = 2) ∨ (b = 1 ∧ x = 2) := by omega
  rcases this with ⟨rfl, rfl⟩ | ⟨rfl, rfl⟩ | ⟨rfl, rfl⟩
  · rw [show swp 0 1 0 = 1 from rfl, show swp 0 1 1 = 0 from rfl, show swp 0 1 2 = 2 from rfl, Nat.add_comm (yv (gr w N r 1))]
  · rw [show swp 0 2 0 = 2 from rfl, show swp 0 2 1 = 1 from rfl, show swp 0 2 2 = 0 from rfl, show yv (gr w N r 2) + yv (gr w N r 1) + yv (gr w N r 0) = yv (gr w N r 0) + yv (gr w N r 1) + yv (gr w N r 2) by omega]
  · rw [show swp 1 2 0 = 0 from rfl, show swp 1 2 1 = 2 from rfl, show swp 1 2 2 = 1 from rfl, show yv (gr w N r 0) + yv (gr w N r 2) + yv (gr w N r 1) = yv (gr w N r 0) + yv (gr w N r 1) + yv (gr w N r 2) by omega]
/-- a way is begun out of turn: the row was there before by another name -/
theorem no_turn {w N f t q b x : Nat} {dk : Bool} {ld rm yv : Nat → Nat} (hx : x < w) (hw : w ≤ 3) (hbx : b < x) (ht : t < N) (hq : q < w ^ t) (hb : ∀ p, p < t → dg w t q p < b) {r : Nat} (hr : r / w ^ (N - t - 1) = q * w + x) : (bs (cP w N f dk ld rm yv) ((q * w + x) * w ^ (N - t - 1))).1 ≤ cP w N f dk ld rm yv r := by
  have hw0 : 0 < w := by omega
  have hd : ∀ p, p < t + 1 → dg w N r p = dg w (t + 1) (q * w + x) p := fun p hp => by rw [dg_pre hp (show t + 1 ≤ N by omega), show N - (t + 1) = N - t - 1 by omega, hr]
  have d1 : ∀ p, p < t → dg w N r p = dg w t q p := fun p hp => by rw [hd p (by omega), dg_ch hx hp]
  have d2 : dg w N r t = x := by rw [hd t (by omega), dg_ct hx]
  let d' : Nat → Nat := fun p => swp b x (dg w N r p)
  have hdl : ∀ p, p < N → d' p < w := by
    intro p _
    have := dg_lt hw0 N r p
    show swp b x (dg w N r p) < w
    unfold swp
    split
    · exact hx
    · split
      · omega
      · exact this
  have hg : ∀ p, p < N → dg w N (nm w d' N) p = swp b x (dg w N r p) := fun p hp => dg_nm hdl hp
  have hc := cP_swp (f := f) (dk := dk) (ld := ld) (rm := rm) (yv := yv) hbx (show x < 3 by omega) hg
  rw [← hc]
  apply bs_low
  -- its first digits come before
  have hpre : nm w d' N / w ^ (N - t - 1) = q * w + b := by
    have h1 := nm_div (w := w) (d := d') (N - t - 1) (t + 1) (fun k hk => hdl k (by omega))
    rw [show t + 1 + (N - t - 1) = N by omega] at h1
    rw [h1]
    show nm w d' t * w + d' t = _
    have h2 : nm w d' t = nm w (dg w t q) t := nm_c t (fun p hp => by
      show swp b x (dg w N r p) = _
      have := hb p hp
      rw [d1 p hp]
      unfold swp
      rw [if_neg (by omega), if_neg (by omega)])
    rw [h2, nm_dg t q hq]
    show q * w + swp b x (dg w N r t) = _
    rw [d2]
    unfold swp
    rw [if_neg (by omega), if_pos rfl]
  have hp : 0 < w ^ (N - t - 1) := Nat.pow_pos hw0
  exact (Nat.div_lt_iff_lt_mul hp).mp (by rw [hpre]; omega)
