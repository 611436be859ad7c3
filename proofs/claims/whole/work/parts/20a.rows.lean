/-! ROWS as numbers to a base, the first best of them; distances as class and reference hold them -/
/-- digit k of n digits of r, to the base w -/
def dg (w n r k : Nat) : Nat := r / w ^ (n - 1 - k) % w
theorem dg_lt {w : Nat} (hw : 0 < w) (n r k : Nat) : dg w n r k < w := Nat.mod_lt _ hw
theorem dg_pre {w n t r k : Nat} (hk : k < t) (ht : t ≤ n) : dg w n r k = dg w t (r / w ^ (n - t)) k := by
  unfold dg
  rw [Nat.div_div_eq_div_mul, ← Nat.pow_add, show n - t + (t - 1 - k) = n - 1 - k by omega]
theorem dg_last (w t q : Nat) : dg w (t + 1) q t = q % w := by
  unfold dg
  rw [show t + 1 - 1 - t = 0 by omega, Nat.pow_zero, Nat.div_one]
theorem dg_ch {w t q c k : Nat} (hc : c < w) (hk : k < t) : dg w (t + 1) (q * w + c) k = dg w t q k := by
  rw [dg_pre hk (Nat.le_succ t), show t + 1 - t = 1 by omega, Nat.pow_one, Nat.mul_comm q w, Nat.mul_add_div (by omega), Nat.div_eq_of_lt hc, Nat.add_zero]
theorem dg_ct {w t q c : Nat} (hc : c < w) : dg w (t + 1) (q * w + c) t = c := by
  rw [dg_last, Nat.mul_comm q w, Nat.mul_add_mod, Nat.mod_eq_of_lt hc]
/-- the number of digits -/
def nm (w : Nat) (d : Nat → Nat) : Nat → Nat
  | 0 => 0
  | n + 1 => nm w d n * w + d n
theorem nm_c {w : Nat} {d e : Nat → Nat} : ∀ n, (∀ k, k < n → d k = e k) → nm w d n = nm w e n
  | 0, _ => rfl
  | n + 1, h => by
    unfold nm
    rw [nm_c n (fun k hk => h k (by omega)), h n (by omega)]
theorem nm_s {w n : Nat} {d : Nat → Nat} (h : d n < w) : nm w d (n + 1) / w = nm w d n ∧ nm w d (n + 1) % w = d n := by
  constructor
  · show (nm w d n * w + d n) / w = _
    rw [Nat.mul_comm, Nat.mul_add_div (by omega), Nat.div_eq_of_lt h, Nat.add_zero]
  · show (nm w d n * w + d n) % w = _
    rw [Nat.mul_comm, Nat.mul_add_mod, Nat.mod_eq_of_lt h]
theorem nm_div {w : Nat} {d : Nat → Nat} : ∀ (j t : Nat), (∀ k, k < t + j → d k < w) → nm w d (t + j) / w ^ j = nm w d t
  | 0, t, _ => by rw [Nat.pow_zero, Nat.div_one, Nat.add_zero]
  | j + 1, t, h => by
    rw [Nat.pow_succ, Nat.mul_comm, ← Nat.div_div_eq_div_mul, show t + (j + 1) = (t + j) + 1 by omega, (nm_s (h (t + j) (by omega))).1]
    exact nm_div j t (fun k hk => h k (by omega))
theorem dg_nm {w n k : Nat} {d : Nat → Nat} (h : ∀ k, k < n → d k < w) (hk : k < n) : dg w n (nm w d n) k = d k := by
  unfold dg
  have h1 := nm_div (w := w) (d := d) (n - 1 - k) (k + 1) (fun j hj => h j (by omega))
  rw [show k + 1 + (n - 1 - k) = n by omega] at h1
  rw [h1, (nm_s (h k hk)).2]
theorem nm_lt {w : Nat} {d : Nat → Nat} : ∀ n, (∀ k, k < n → d k < w) → nm w d n < w ^ n
  | 0, _ => Nat.one_pos
  | n + 1, h => by
    have h1 := nm_lt n (fun k hk => h k (by omega))
    have h2 := h n (by omega)
    show nm w d n * w + d n < w ^ n * w
    have h3 : (nm w d n + 1) * w ≤ w ^ n * w := Nat.mul_le_mul_right w h1
    rw [Nat.add_mul, Nat.one_mul] at h3
    omega
theorem nm_dg {w : Nat} : ∀ (n r : Nat), r < w ^ n → nm w (dg w n r) n = r
  | 0, r, h => by
    have : r = 0 := by simpa using h
    subst this; rfl
  | n + 1, r, h => by
    have hw : 0 < w := by
      rcases Nat.eq_zero_or_pos w with q | q
      · subst q; rw [Nat.pow_succ, Nat.mul_zero] at h; omega
      · exact q
    show nm w (dg w (n + 1) r) n * w + dg w (n + 1) r n = r
    have h1 : nm w (dg w (n + 1) r) n = nm w (dg w n (r / w)) n := nm_c n (fun k hk => by rw [dg_pre hk (Nat.le_succ n), show n + 1 - n = 1 by omega, Nat.pow_one])
    rw [h1, nm_dg n (r / w) (by rw [Nat.pow_succ] at h; exact Nat.div_lt_of_lt_mul (by rw [Nat.mul_comm]; exact h)), dg_last]
    have := Nat.div_add_mod r w
    rw [Nat.mul_comm] at this
    exact this
/-- the first best of the first m rows: its cost (1000000: there is none), its number -/
def bs (c : Nat → Nat) : Nat → Nat × Nat
  | 0 => (1000000, 0)
  | m + 1 => if c m < (bs c m).1 then (c m, m) else bs c m
theorem bs_le (c : Nat → Nat) : ∀ m, (bs c m).1 ≤ 1000000
  | 0 => Nat.le_refl _
  | m + 1 => by
    have := bs_le c m
    unfold bs
    split
    · show c m ≤ _
      omega
    · exact this
theorem bs_low (c : Nat → Nat) : ∀ m r, r < m → (bs c m).1 ≤ c r
  | 0, r, h => by omega
  | m + 1, r, h => by
    have ih := bs_low c m
    unfold bs
    by_cases hq : c m < (bs c m).1
    · rw [if_pos hq]
      by_cases hr : r = m
      · subst hr; exact Nat.le_refl _
      · have := ih r (by omega)
        show c m ≤ c r
        omega
    · rw [if_neg hq]
      by_cases hr : r = m
      · subst hr; omega
      · exact ih r (by omega)
theorem bs_arg (c : Nat → Nat) : ∀ m, (bs c m).1 < 1000000 → (bs c m).2 < m ∧ c (bs c m).2 = (bs c m).1
  | 0, h => by
    have : (1000000 : Nat) < 1000000 := h
    omega
  | m + 1, h => by
    unfold bs at h ⊢
    by_cases hq : c m < (bs c m).1
    · rw [if_pos hq]
      exact ⟨Nat.lt_succ_self m, rfl⟩
    · rw [if_neg hq] at h ⊢
      have := bs_arg c m h
      exact ⟨by omega, this.2⟩
theorem bs_skip (c : Nat → Nat) (m : Nat) : ∀ k, (∀ r, m ≤ r → r < m + k → (bs c m).1 ≤ c r) → bs c (m + k) = bs c m
  | 0, _ => rfl
  | k + 1, h => by
    have ih := bs_skip c m k (fun r h1 h2 => h r h1 (by omega))
    show (if c (m + k) < (bs c (m + k)).1 then (c (m + k), m + k) else bs c (m + k)) = _
    have := h (m + k) (by omega) (by omega)
    rw [ih, if_neg (by omega)]
/-- rows of one prefix -/
theorem pre_in {w j q r : Nat} (hw : 0 < w) (h1 : q * w ^ j ≤ r) (h2 : r < (q + 1) * w ^ j) : r / w ^ j = q := by
  have hp : 0 < w ^ j := Nat.pow_pos hw
  have a1 : q ≤ r / w ^ j := (Nat.le_div_iff_mul_le hp).mpr h1
  have a2 : r / w ^ j < q + 1 := (Nat.div_lt_iff_lt_mul hp).mpr h2
  omega
theorem bs_pre {c : Nat → Nat} {w j q : Nat} (hw : 0 < w) (h : ∀ r, r / w ^ j = q → (bs c (q * w ^ j)).1 ≤ c r) : bs c ((q + 1) * w ^ j) = bs c (q * w ^ j) := by
  have e : (q + 1) * w ^ j = q * w ^ j + w ^ j := by rw [Nat.add_mul, Nat.one_mul]
  rw [e]
  exact bs_skip c _ _ (fun r h1 h2 => h r (pre_in hw h1 (by rw [e]; exact h2)))
/-- the reference's numbers for what has no end -/
def cv (v : Nat) : Nat := if v < 1000000 then v else 10000000
theorem cv_le {v : Nat} : cv v ≤ 10000000 := by
  unfold cv
  split <;> omega
/-! distances -/
def cD (h : PH) (P : Nat) (D : Nat → Nat → Nat) : Prop := P ≤ 8 ∧ ∀ a b, a < P → b < P → h.1 16 (8 * a + b) = nI (D a b) ∧ (D a b < 100000 ∨ D a b = 1000000)
def mD (h : PH) (P : Nat) (D : Nat → Nat → Nat) : Prop := P ≤ 8 ∧ ∀ a b, a < P → b < P → h.1 53 (8 * a + b) = nI (if D a b = 1000000 then 10000000 else D a b) ∧ (D a b < 100000 ∨ D a b = 1000000)
def Yd (D : Nat → Nat → Nat) (a b : Nat) : Nat := if D a b = 1000000 then 1000000 else D a b / 1000
theorem cD_of {h : PH} (hH : iv_H h) (hX : iv_X h) : cD h (hv_P h) (hv_D h) := ⟨hH.1.2.1, fun _ _ ha hb => ⟨d_16 hX ha hb, d_le hX ha hb⟩⟩
theorem mD_of {h : PH} (hH : iv_H h) (hX : iv_X h) : mD h (hv_P h) (hv_D h) := ⟨hH.1.2.1, fun _ _ ha hb => ⟨d_53 hX ha hb, d_le hX ha hb⟩⟩
theorem cD_fr {h g : PH} {P : Nat} {D : Nat → Nat → Nat} (hd : cD h P D) (e : g.1 16 = h.1 16) : cD g P D := by
  unfold cD
  rw [e]
  exact hd
theorem mD_fr {h g : PH} {P : Nat} {D : Nat → Nat → Nat} (hd : mD h P D) (e : g.1 53 = h.1 53) : mD g P D := by
  unfold mD
  rw [e]
  exact hd
theorem Yd_b {h : PH} {P : Nat} {D : Nat → Nat → Nat} (hd : cD h P D) {a b : Nat} (ha : a < P) (hb : b < P) : (Yd D a b ≤ 99 ∧ D a b ≠ 1000000) ∨ (Yd D a b = 1000000 ∧ D a b = 1000000) := by
  have h1 := (hd.2 a b ha hb).2
  unfold Yd
  by_cases hq : D a b = 1000000
  · rw [if_pos hq]; exact Or.inr ⟨rfl, hq⟩
  · rw [if_neg hq]; left; exact ⟨by omega, hq⟩
theorem Yd_le {h : PH} {P : Nat} {D : Nat → Nat → Nat} (hd : cD h P D) {a b : Nat} (ha : a < P) (hb : b < P) : Yd D a b ≤ 1000000 := by
  rcases Yd_b hd ha hb with h1 | h1 <;> omega
theorem c_yf {h : PH} {P : Nat} {D : Nat → Nat → Nat} (hd : cD h P D) {a b : Nat} (ha : a < P) (hb : b < P) : f_X3_yardsFrom (nI a) (nI b) h = some (nI (Yd D a b)) := by
  have hP8 := hd.1
  have h1 := hd.2 a b ha hb
  unfold f_X3_yardsFrom Yd
  rw [x8, pu_gn (show 8 * a + b < 64 by omega) (by decide), nI_clamp (by omega), h1.1, pu_lt]
  by_cases hq : D a b = 1000000
  · rw [hq, if_pos (by decide), if_pos rfl]
    rfl
  · rw [if_neg (show ¬ (1000000 : Int32) ≤ nI (D a b) from nI_ge (b := 1000000) (by omega) (by decide)), if_neg hq]
    show some (nI _ / nI 1000) = _
    rw [nI_div (by omega) (by decide)]
theorem m_th {h : PH} {P : Nat} {D : Nat → Nat → Nat} (hd : mD h P D) {a b : Nat} (ha : a < P) (hb : b < P) : f_X12_isThere (nI a) (nI b) h = some (if D a b = 1000000 then 0 else 1) := by
  have hP8 := hd.1
  have h1 := hd.2 a b ha hb
  unfold f_X12_isThere
  rw [x8', pu_gn (show 8 * a + b < 64 by omega) (by decide), nI_clamp (by omega), h1.1]
  by_cases hq : D a b = 1000000
  · rw [if_pos hq, if_pos (show (10000000 : Int32) ≤ nI 10000000 by decide), if_pos hq]
  · rw [if_neg hq, if_neg (show ¬ (10000000 : Int32) ≤ nI (D a b) from nI_ge (b := 10000000) (by omega) (by decide)), if_neg hq]
theorem m_fd {h : PH} {P : Nat} {D : Nat → Nat → Nat} (hd : mD h P D) {a b : Nat} (ha : a < P) (hb : b < P) : (h.1 53 (8 * a + b)) / 1000 = nI (if D a b = 1000000 then 10000 else D a b / 1000) := by
  have h1 := hd.2 a b ha hb
  rw [h1.1]
  by_cases hq : D a b = 1000000
  · rw [if_pos hq, if_pos hq]
    rfl
  · rw [if_neg hq, if_neg hq]
    exact nI_div (b := 1000) (by omega) (by decide)
theorem s_bc {s : Nat} (hs : s < 256) (h : PH) : f_J6_bitCount_0f7a4 (nI s) h = some (nI (pc s)) := by
  let bc : Int32 → Int32 := fun x0 =>
    let x1 := x0 - (((x0.toUInt32 >>> ((1 : Int32).toUInt32 &&& Int32.toUInt32 31)).toInt32) &&& 1431655765)
    let x2 := (x1 &&& 858993459) + (((x1.toUInt32 >>> ((2 : Int32).toUInt32 &&& Int32.toUInt32 31)).toInt32) &&& 858993459)
    let x3 := (x2 + ((x2.toUInt32 >>> ((4 : Int32).toUInt32 &&& Int32.toUInt32 31)).toInt32)) &&& 252645135
    let x4 := x3 + ((x3.toUInt32 >>> ((8 : Int32).toUInt32 &&& Int32.toUInt32 31)).toInt32)
    let x5 := x4 + ((x4.toUInt32 >>> ((16 : Int32).toUInt32 &&& Int32.toUInt32 31)).toInt32)
    x5 &&& 63
  have e : f_J6_bitCount_0f7a4 (nI s) h = some (bc (nI s)) := rfl
  have : ∀ s : Fin 256, bc (nI s.1) = nI (pc s.1) := by decide +kernel
  rw [e, this ⟨s, hs⟩]
theorem m_bits {s : Nat} (hs : s < 256) (h : PH) : f_X12_bits (nI s) h = some (nI (pc s)) := by
  have hL : lp_f (fun t => lb_X12_bits_4 (nI s) h t.1 t.2) fu_l (0, 0) = some (nI (pc s), nI 8) := by
    refine lp_cnt (fun i => (nI (sl (fun _ => 1) s i), nI i)) 8 _ (fun i hi => ?_) ?_ fu_l 0 (by omega) (by unfold fu_l; omega)
    · show lb_X12_bits_4 (nI s) h (nI (sl (fun _ => 1) s i)) (nI i) = _
      unfold lb_X12_bits_4
      rw [if_neg (show ¬ (8 : Int32) ≤ nI i from nI_ge (b := 8) hi (by decide)), bt_t hs hi, pu_lt, pu_lt, ← nI_succ, show sl (fun _ => 1) s (i + 1) = sl (fun _ => 1) s i + if s.testBit i then 1 else 0 from rfl]
      cases s.testBit i
      · show some (Sum.inl (nI (sl (fun _ => 1) s i) + 0, nI (i + 1))) = some (Sum.inl (nI (sl (fun _ => 1) s i + 0), nI (i + 1)))
        rw [nI_a0]
        rfl
      · show some (Sum.inl (nI (sl (fun _ => 1) s i) + 1, nI (i + 1))) = some (Sum.inl (nI (sl (fun _ => 1) s i + 1), nI (i + 1)))
        rw [← nI_succ]
    · show lb_X12_bits_4 (nI s) h (nI (sl (fun _ => 1) s 8)) (nI 8) = _
      unfold lb_X12_bits_4
      rw [if_pos (by decide)]
  unfold f_X12_bits
  rw [hL, pu_b1]
