/-! LOOPS by an index, SETS as numbers -/
theorem lp_ix {σ ρ : Type} {body : σ → Option (σ ⊕ ρ)} (I : Nat → σ → Prop) (Q : ρ → Prop) (e : Nat) (hs : ∀ i s, i < e → I i s → (∃ t, body s = some (.inl t) ∧ I (i + 1) t) ∨ ∃ r, body s = some (.inr r) ∧ Q r) (he : ∀ s, I e s → ∃ r, body s = some (.inr r) ∧ Q r) : ∀ (n i : Nat) (s : σ), I i s → i ≤ e → e - i < n → ∃ r, lp_f body n s = some r ∧ Q r := by
  intro n
  induction n with
  | zero => intro i s _ _ h; omega
  | succ n ih =>
    intro i s hI h1 h2
    by_cases hi : i = e
    · subst hi
      obtain ⟨r, q1, q2⟩ := he s hI
      exact ⟨r, lp_r q1, q2⟩
    · rcases hs i s (by omega) hI with ⟨t, q1, q2⟩ | ⟨r, q1, q2⟩
      · rw [lp_s q1]
        exact ih (i + 1) t q2 (by omega) (by omega)
      · exact ⟨r, lp_r q1, q2⟩
theorem lp_0 {σ ρ : Type} {body : σ → Option (σ ⊕ ρ)} (I : Nat → σ → Prop) (Q : ρ → Prop) (e : Nat) (he2 : e < 10000) (hs : ∀ i s, i < e → I i s → (∃ t, body s = some (.inl t) ∧ I (i + 1) t) ∨ ∃ r, body s = some (.inr r) ∧ Q r) (he : ∀ s, I e s → ∃ r, body s = some (.inr r) ∧ Q r) (s : σ) (h0 : I 0 s) : ∃ r, lp_f body fu_l s = some r ∧ Q r :=
  lp_ix I Q e hs he fu_l 0 s h0 (Nat.zero_le e) (by unfold fu_l; omega)
theorem nI_and (a b : Nat) : nI a &&& nI b = nI (a &&& b) := by
  apply Int32.toBitVec_inj.mp
  show BitVec.ofNat 32 a &&& BitVec.ofNat 32 b = BitVec.ofNat 32 (a &&& b)
  rw [BitVec.ofNat_and]
theorem nI_or (a b : Nat) : nI a ||| nI b = nI (a ||| b) := by
  apply Int32.toBitVec_inj.mp
  show BitVec.ofNat 32 a ||| BitVec.ofNat 32 b = BitVec.ofNat 32 (a ||| b)
  rw [BitVec.ofNat_or]
theorem nI_xor (a b : Nat) : nI a ^^^ nI b = nI (a ^^^ b) := by
  apply Int32.toBitVec_inj.mp
  show BitVec.ofNat 32 a ^^^ BitVec.ofNat 32 b = BitVec.ofNat 32 (a ^^^ b)
  rw [BitVec.ofNat_xor]
theorem n_m1 : (-1 : Int32) = nI 4294967295 := by decide
/-- one set less another -/
def dif (s t : Nat) : Nat := s &&& (t ^^^ 4294967295)
theorem nI_dif (s t : Nat) : nI s &&& (nI t ^^^ (-1)) = nI (dif s t) := by
  rw [n_m1, nI_xor, nI_and]
  rfl
theorem dif_bit {s t : Nat} (hs : s < 4294967296) (p : Nat) : (dif s t).testBit p = (s.testBit p && !t.testBit p) := by
  unfold dif
  rw [Nat.testBit_and, Nat.testBit_xor, show (4294967295 : Nat) = 2 ^ 32 - 1 from rfl, Nat.testBit_two_pow_sub_one]
  by_cases hp : p < 32
  · rw [decide_eq_true hp]
    cases t.testBit p <;> rfl
  · have : s.testBit p = false := Nat.testBit_lt_two_pow (Nat.lt_of_lt_of_le hs (show 2 ^ 32 ≤ 2 ^ p from Nat.pow_le_pow_right (by omega) (by omega)))
    rw [this]
    rfl
theorem dif_le (s t : Nat) : dif s t ≤ s := Nat.and_le_left
theorem bit_lt {s n p : Nat} (hs : s < 2 ^ n) (h : s.testBit p = true) : p < n := by
  by_cases hp : p < n
  · exact hp
  · rw [Nat.testBit_lt_two_pow (Nat.lt_of_lt_of_le hs (Nat.pow_le_pow_right (by omega) (by omega)))] at h
    cases h
theorem bit_8 {s p : Nat} (hs : s < 256) (h : s.testBit p = true) : p < 8 := bit_lt (n := 8) hs h
theorem set_ext {s t : Nat} (h : ∀ p, s.testBit p = true ↔ t.testBit p = true) : s = t := by
  apply Nat.eq_of_testBit_eq
  intro i
  have := h i
  cases hs : s.testBit i <;> cases ht : t.testBit i <;> simp_all
theorem set_0 {s : Nat} (h : ∀ p, s.testBit p = false) : s = 0 := by
  apply Nat.eq_of_testBit_eq
  intro i
  rw [h i, Nat.zero_testBit]
theorem set_ne {s : Nat} (h : s ≠ 0) : ∃ p, s.testBit p = true := by
  by_cases hq : ∃ p, s.testBit p = true
  · exact hq
  · exact absurd (set_0 (fun p => by cases hp : s.testBit p with | false => rfl | true => exact absurd ⟨p, hp⟩ hq)) h
theorem set_lt {s n : Nat} (h : ∀ p, s.testBit p = true → p < n) : s < 2 ^ n := by
  apply Nat.lt_pow_two_of_testBit
  intro i hi
  cases hp : s.testBit i with
  | false => rfl
  | true => have := h i hp; omega
/-- a set less one of it -/
abbrev rm1 (s q : Nat) : Nat := dif s (2 ^ q)
theorem nI_rm {s q : Nat} (hq : q < 8) : nI s &&& (((1 : Int32) <<< (nI q &&& 31)) ^^^ (-1)) = nI (rm1 s q) := by
  rw [sh_one (by omega), nI_dif]
theorem rm_bit {s q : Nat} (hs : s < 4294967296) (p : Nat) : (rm1 s q).testBit p = true ↔ s.testBit p = true ∧ p ≠ q := by
  rw [dif_bit hs, Nat.testBit_two_pow, Bool.and_eq_true, Bool.not_eq_true', decide_eq_false_iff_not]
  constructor
  · rintro ⟨h1, h2⟩; exact ⟨h1, fun h => h2 h.symm⟩
  · rintro ⟨h1, h2⟩; exact ⟨h1, fun h => h2 h.symm⟩
theorem rm_le (s q : Nat) : rm1 s q ≤ s := dif_le _ _
theorem rm_lt {s q : Nat} (hs : s < 4294967296) (h : s.testBit q = true) : rm1 s q < s := by
  have h1 := rm_le s q
  by_cases he : rm1 s q = s
  · have := (rm_bit (q := q) hs q).mp (by rw [he]; exact h)
    exact absurd rfl this.2
  · omega
theorem add_bit (s q p : Nat) : (s ||| 2 ^ q).testBit p = true ↔ s.testBit p = true ∨ p = q := by
  rw [bt_ot, Bool.or_eq_true, decide_eq_true_iff]
  constructor
  · rintro (h | h)
    · exact Or.inl h
    · exact Or.inr h.symm
  · rintro (h | h)
    · exact Or.inl h
    · exact Or.inr h.symm
theorem rm_add {s q : Nat} (hs : s < 4294967296) (h : s.testBit q = false) (h2 : s ||| 2 ^ q < 4294967296) : rm1 (s ||| 2 ^ q) q = s := by
  apply set_ext
  intro p
  rw [rm_bit h2, add_bit]
  constructor
  · rintro ⟨h1 | h1, h2⟩
    · exact h1
    · exact absurd h1 h2
  · intro h1
    exact ⟨Or.inl h1, fun hp => by subst hp; rw [h] at h1; cases h1⟩
/-- sums over a set -/
def sl (ld : Nat → Nat) (s : Nat) : Nat → Nat
  | 0 => 0
  | n + 1 => sl ld s n + if s.testBit n then ld n else 0
theorem sl_add {ld : Nat → Nat} {s q : Nat} (h : s.testBit q = false) : ∀ n, sl ld (s ||| 2 ^ q) n = sl ld s n + if q < n then ld q else 0
  | 0 => by simp [sl]
  | n + 1 => by
    have ih := sl_add (ld := ld) h n
    unfold sl
    rw [ih, bt_ot]
    by_cases hq : q = n
    · subst hq
      rw [h, if_neg (show ¬ q < q by omega), if_pos (show q < q + 1 by omega)]
      simp
    · have e : decide (q = n) = false := by simp [hq]
      rw [e, Bool.or_false]
      by_cases hl : q < n
      · rw [if_pos hl, if_pos (show q < n + 1 by omega)]; omega
      · rw [if_neg hl, if_neg (show ¬ q < n + 1 by omega)]; omega
theorem sl_le {ld : Nat → Nat} {s m : Nat} : ∀ n, (∀ p, p < n → ld p ≤ m) → sl ld s n ≤ m * n
  | 0, _ => by simp [sl]
  | n + 1, h => by
    have ih := sl_le (ld := ld) (s := s) n (fun p hp => h p (by omega))
    have h2 := h n (by omega)
    unfold sl
    rw [Nat.mul_add, Nat.mul_one]
    split <;> omega
theorem sl_zero (ld : Nat → Nat) : ∀ n, sl ld 0 n = 0
  | 0 => rfl
  | n + 1 => by
    unfold sl
    rw [sl_zero ld n, Nat.zero_testBit]
    rfl
theorem sl_mono {ld : Nat → Nat} {s t : Nat} (h : ∀ p, s.testBit p = true → t.testBit p = true) : ∀ n, sl ld s n ≤ sl ld t n
  | 0 => Nat.le_refl _
  | n + 1 => by
    have ih := sl_mono (ld := ld) h n
    unfold sl
    by_cases hb : s.testBit n = true
    · rw [if_pos hb, if_pos (h n hb)]; omega
    · rw [if_neg hb]; omega
theorem sl_rm {ld : Nat → Nat} {s q : Nat} (hs : s < 4294967296) (h : s.testBit q = true) : ∀ n, sl ld (rm1 s q) n + (if q < n then ld q else 0) = sl ld s n
  | 0 => by simp [sl]
  | n + 1 => by
    have ih := sl_rm (ld := ld) hs h n
    unfold sl
    by_cases hq : q = n
    · subst hq
      have e : ¬ (rm1 s q).testBit q = true := fun k => ((rm_bit hs q).mp k).2 rfl
      rw [if_neg e, if_pos h, if_pos (show q < q + 1 by omega)]
      rw [if_neg (show ¬ q < q by omega)] at ih
      omega
    · by_cases hb : s.testBit n = true
      · have e : (rm1 s q).testBit n = true := (rm_bit hs n).mpr ⟨hb, fun k => hq k.symm⟩
        rw [if_pos e, if_pos hb]
        by_cases hl : q < n
        · rw [if_pos (show q < n + 1 by omega)]; rw [if_pos hl] at ih; omega
        · rw [if_neg (show ¬ q < n + 1 by omega)]; rw [if_neg hl] at ih; omega
      · have e : ¬ (rm1 s q).testBit n = true := fun k => hb ((rm_bit hs n).mp k).1
        rw [if_neg e, if_neg hb]
        by_cases hl : q < n
        · rw [if_pos (show q < n + 1 by omega)]; rw [if_pos hl] at ih; omega
        · rw [if_neg (show ¬ q < n + 1 by omega)]; rw [if_neg hl] at ih; omega
/-- how many -/
abbrev pc (s : Nat) : Nat := sl (fun _ => 1) s 8
theorem pc_rm {s q : Nat} (hs : s < 256) (h : s.testBit q = true) : pc (rm1 s q) + 1 = pc s := by
  have := sl_rm (ld := fun _ => 1) (show s < 4294967296 by omega) h 8
  rw [if_pos (bit_8 hs h)] at this
  exact this
theorem pc_le (s : Nat) : pc s ≤ 8 := by
  have := sl_le (ld := fun _ => 1) (s := s) (m := 1) 8 (fun _ _ => Nat.le_refl 1)
  omega
theorem pc_0 {s : Nat} (hs : s < 256) (h : pc s = 0) : s = 0 := by
  by_cases hz : s = 0
  · exact hz
  · obtain ⟨p, hp⟩ := set_ne hz
    have := pc_rm hs hp
    omega
theorem m_has {s q : Nat} {h : PH} (hs : s < 256) (hq : q < 8) : f_X12_hasBit (nI s) (nI q) h = some (if s.testBit q then 1 else 0) := by
  unfold f_X12_hasBit
  rw [bt_t hs hq]
  cases s.testBit q <;> rfl
theorem m_less (a b : Nat) {h : PH} (ha : a < 2 ^ 31) (hb : b < 2 ^ 31) : f_X12_lesser (nI a) (nI b) h = some (nI (min a b)) := by
  unfold f_X12_lesser
  by_cases hq : b ≤ a
  · rw [if_pos (nI_le hq ha), Nat.min_eq_right hq]
  · rw [if_neg (nI_ge (by omega) hb), Nat.min_eq_left (by omega)]
