/-! TEXTS: signs and figures, as both read them -/
def CF (g : PH) (sp n : Nat) (h : PH) (p : Nat) : Prop := (∀ a, a ≠ 5 → a ≠ 6 → a ≠ 7 → a ≠ 8 → a ≠ 9 → h.1 a = g.1 a) ∧ h.2 = g.2 ∧ h.1 5 7 = 1 ∧ h.1 5 8 = nI sp ∧ h.1 5 9 = nI (sp + n) ∧ h.1 5 10 = nI (sp + p) ∧ p ≤ n
def MF (g : PH) (sp n : Nat) (h : PH) (p : Nat) : Prop := (∀ a, a ≠ 43 → a ≠ 49 → a ≠ 50 → a ≠ 51 → a ≠ 52 → h.1 a = g.1 a) ∧ (∀ j, (j < 9 ∨ 13 < j) → h.1 43 j = g.1 43 j) ∧ h.2 = g.2 ∧ h.1 43 9 = nI p ∧ p ≤ n
def dgt (T : Nat → Int32) (n p lo hi d : Nat) : Prop := p < n ∧ T p = nI (48 + d) ∧ lo ≤ d ∧ d ≤ hi
theorem cf_5 {g h : PH} {sp n p q : Nat} (hc : CF g sp n h p) (hq : q ≤ n) : CF g sp n (ph_i h 5 10 (nI (sp + q))) q := by
  obtain ⟨c1, c2, c3, c4, c5, c6, c7⟩ := hc
  refine ⟨fun a a1 a2 a3 a4 a5 => by rw [pr_ne a1]; exact c1 a a1 a2 a3 a4 a5, c2, ?_, ?_, ?_, ?_, hq⟩
  · rw [pr_eq, if_neg (by decide)]; exact c3
  · rw [pr_eq, if_neg (by decide)]; exact c4
  · rw [pr_eq, if_neg (by decide)]; exact c5
  · rw [pr_eq, if_pos rfl]
theorem cf_w {g h : PH} {sp n p a j : Nat} {v : Int32} (hc : CF g sp n h p) (ha : a = 6 ∨ a = 7 ∨ a = 8 ∨ a = 9) : CF g sp n (ph_i h a j v) p := by
  obtain ⟨c1, c2, c3, c4, c5, c6, c7⟩ := hc
  have h5 : 5 ≠ a := by omega
  refine ⟨fun b a1 a2 a3 a4 a5 => by rw [pr_ne (by omega)]; exact c1 b a1 a2 a3 a4 a5, c2, ?_, ?_, ?_, ?_, c7⟩
  · rw [pr_ne h5]; exact c3
  · rw [pr_ne h5]; exact c4
  · rw [pr_ne h5]; exact c5
  · rw [pr_ne h5]; exact c6
theorem cf_4 {g h : PH} {sp n p j : Nat} {v : Int32} (hc : CF g sp n h p) (hj : j < 7) : CF g sp n (ph_i h 5 j v) p := by
  obtain ⟨c1, c2, c3, c4, c5, c6, c7⟩ := hc
  refine ⟨fun b a1 a2 a3 a4 a5 => by rw [pr_ne a1]; exact c1 b a1 a2 a3 a4 a5, c2, ?_, ?_, ?_, ?_, c7⟩
  · rw [pr_eq, if_neg (by omega)]; exact c3
  · rw [pr_eq, if_neg (by omega)]; exact c4
  · rw [pr_eq, if_neg (by omega)]; exact c5
  · rw [pr_eq, if_neg (by omega)]; exact c6
theorem mf_9 {g h : PH} {sp n p q : Nat} (hc : MF g sp n h p) (hq : q ≤ n) : MF g sp n (ph_i h 43 9 (nI q)) q := by
  obtain ⟨c1, c2, c3, c4, c5⟩ := hc
  refine ⟨fun a a1 a2 a3 a4 a5 => by rw [pr_ne a1]; exact c1 a a1 a2 a3 a4 a5, fun j hj => ?_, c3, ?_, hq⟩
  · rw [pr_eq, if_neg (by omega)]; exact c2 j hj
  · rw [pr_eq, if_pos rfl]
theorem mf_j {g h : PH} {sp n p j : Nat} {v : Int32} (hc : MF g sp n h p) (hj : 9 < j ∧ j ≤ 13) : MF g sp n (ph_i h 43 j v) p := by
  obtain ⟨c1, c2, c3, c4, c5⟩ := hc
  refine ⟨fun a a1 a2 a3 a4 a5 => by rw [pr_ne a1]; exact c1 a a1 a2 a3 a4 a5, fun i hi => ?_, c3, ?_, c5⟩
  · rw [pr_eq, if_neg (by omega)]; exact c2 i hi
  · rw [pr_eq, if_neg (by omega)]; exact c4
theorem mf_w {g h : PH} {sp n p a j : Nat} {v : Int32} (hc : MF g sp n h p) (ha : a = 49 ∨ a = 50 ∨ a = 51 ∨ a = 52) : MF g sp n (ph_i h a j v) p := by
  obtain ⟨c1, c2, c3, c4, c5⟩ := hc
  have h5 : 43 ≠ a := by omega
  refine ⟨fun b a1 a2 a3 a4 a5 => by rw [pr_ne (by omega)]; exact c1 b a1 a2 a3 a4 a5, fun i hi => ?_, c3, ?_, c5⟩
  · rw [pr_ne h5]; exact c2 i hi
  · rw [pr_ne h5]; exact c4
theorem c_has {g h : PH} {sp n p : Nat} (hsp : sp + n ≤ 400) (hc : CF g sp n h p) (code : Int32) : f_X10_hasCode code h = some (if p < n ∧ g.1 4 (sp + p) = code then 1 else 0) := by
  obtain ⟨c1, c2, c3, c4, c5, c6, c7⟩ := hc
  have r4 : h.1 4 = g.1 4 := c1 4 (by decide) (by decide) (by decide) (by decide) (by decide)
  unfold f_X10_hasCode
  rw [c3, c5, c6, r4, if_neg (show ¬ (1 : Int32) = 0 by decide), if_neg (nI_pos (by omega))]
  by_cases hp : p < n
  · rw [if_neg (nI_ge (by omega) (by omega)), if_neg (show ¬ (1 : Int32) = 0 by decide), if_neg (show ¬ (400 : Int32) ≤ nI (sp + p) from nI_ge (show sp + p < 400 by omega) (by decide)), if_neg (show ¬ (1 : Int32) = 0 by decide), pu_gn (show sp + p < 400 by omega) (by decide), nI_clamp (by omega)]
    by_cases hq : g.1 4 (sp + p) = code
    · rw [if_pos hq, if_pos ⟨hp, hq⟩]
    · rw [if_neg hq, if_neg (fun q => hq q.2)]
  · rw [if_pos (nI_le (by omega) (by omega)), if_neg (fun q => hp q.1)]
theorem c_s1 {g h : PH} {sp n p : Nat} {code : Int32} (hsp : sp + n ≤ 400) (hc : CF g sp n h p) (hq : p < n ∧ g.1 4 (sp + p) = code) : f_X10_isSign code h = some (1, ph_i h 5 10 (nI (sp + (p + 1)))) := by
  unfold f_X10_isSign
  rw [c_has hsp hc, if_pos hq, pu_b1, if_neg (show ¬ (1 : Int32) = 0 by decide), pu_lt, hc.2.2.2.2.2.1, ← nI_succ]
  rfl
theorem c_s0 {g h : PH} {sp n p : Nat} {code : Int32} (hsp : sp + n ≤ 400) (hc : CF g sp n h p) (hq : ¬ (p < n ∧ g.1 4 (sp + p) = code)) : f_X10_isSign code h = some (0, h) := by
  unfold f_X10_isSign
  rw [c_has hsp hc, if_neg hq, pu_b1, if_pos (show (0 : Int32) = 0 from rfl)]
theorem c_d1 {g h : PH} {sp n p lo hi d : Nat} (hsp : sp + n ≤ 400) (hc : CF g sp n h p) (hh : hi ≤ 9) (hd : dgt (fun i => g.1 4 (sp + i)) n p lo hi d) : f_X10_digit (nI lo) (nI hi) h = some (nI d, ph_i h 5 10 (nI (sp + (p + 1)))) := by
  obtain ⟨d1, d2, d3, d4⟩ := hd
  unfold f_X10_digit
  have e : lp_f (fun s => lb_X10_digit_2 (nI hi) s.1 s.2) fu_l (nI lo, h) = some (.inl (nI d, ph_i h 5 10 (nI (sp + (p + 1))))) := by
    refine lp_cnt (fun i => (nI (lo + i), h)) (d - lo) _ (fun i hi2 => ?_) ?_ fu_l 0 (by omega) (by unfold fu_l; omega)
    · show lb_X10_digit_2 (nI hi) (nI (lo + i)) h = some (.inl (nI (lo + (i + 1)), h))
      unfold lb_X10_digit_2
      rw [if_neg (nI_nlt (by omega) (by omega)), show (48 : Int32) + nI (lo + i) = nI (48 + (lo + i)) from nI_add 48 _, c_s0 hsp hc (fun q => by
        have := q.2
        rw [show g.1 4 (sp + p) = nI (48 + d) from d2] at this
        have := nI_inj this (by omega) (by omega)
        omega), pu_b2, if_pos (show (0 : Int32) = 0 from rfl), pu_lt, ← nI_succ]
      rfl
    · show lb_X10_digit_2 (nI hi) (nI (lo + (d - lo))) h = _
      unfold lb_X10_digit_2
      rw [show lo + (d - lo) = d by omega, if_neg (nI_nlt (by omega) (by omega)), show (48 : Int32) + nI d = nI (48 + d) from nI_add 48 _, c_s1 hsp hc ⟨d1, d2⟩, pu_b2, if_neg (show ¬ (1 : Int32) = 0 by decide)]
  rw [e, pu_b1, pu_sl]
theorem c_d0 {g h : PH} {sp n p lo hi : Nat} (hsp : sp + n ≤ 400) (hc : CF g sp n h p) (hh : hi ≤ 9) (hl : lo ≤ hi) (hd : ¬ ∃ d, dgt (fun i => g.1 4 (sp + i)) n p lo hi d) : f_X10_digit (nI lo) (nI hi) h = some (-1, h) := by
  unfold f_X10_digit
  have e : lp_f (fun s => lb_X10_digit_2 (nI hi) s.1 s.2) fu_l (nI lo, h) = some (.inr (nI (hi + 1), h)) := by
    refine lp_cnt (fun i => (nI (lo + i), h)) (hi + 1 - lo) _ (fun i hi2 => ?_) ?_ fu_l 0 (by omega) (by unfold fu_l; omega)
    · show lb_X10_digit_2 (nI hi) (nI (lo + i)) h = some (.inl (nI (lo + (i + 1)), h))
      unfold lb_X10_digit_2
      rw [if_neg (nI_nlt (by omega) (by omega)), show (48 : Int32) + nI (lo + i) = nI (48 + (lo + i)) from nI_add 48 _, c_s0 hsp hc (fun q => hd ⟨lo + i, q.1, q.2, by omega, by omega⟩), pu_b2, if_pos (show (0 : Int32) = 0 from rfl), pu_lt, ← nI_succ]
      rfl
    · show lb_X10_digit_2 (nI hi) (nI (lo + (hi + 1 - lo))) h = _
      unfold lb_X10_digit_2
      rw [show lo + (hi + 1 - lo) = hi + 1 by omega, if_pos (nI_lt (by omega) (by omega))]
  rw [e, pu_b1, pu_sr]
theorem m_t1 {g h : PH} {sp n p : Nat} {code : Int32} (hsp : sp + n ≤ 400) (hc : MF g sp n h p) (hq : p < n ∧ g.1 69 (sp + p) = code) : f_X12_takes code (nI sp) (nI n) h = some (1, ph_i h 43 9 (nI (p + 1))) := by
  obtain ⟨c1, c2, c3, c4, c5⟩ := hc
  unfold f_X12_takes
  rw [c4, if_neg (nI_ge hq.1 (by omega)), nI_add, pu_gn (show sp + p < 400 by omega) (by decide), nI_clamp (by omega), c1 69 (by decide) (by decide) (by decide) (by decide) (by decide), if_pos hq.2, if_neg (show ¬ (1 : Int32) = 0 by decide), pu_lt, nI_succ]
theorem m_t0 {g h : PH} {sp n p : Nat} {code : Int32} (hsp : sp + n ≤ 400) (hc : MF g sp n h p) (hq : ¬ (p < n ∧ g.1 69 (sp + p) = code)) : f_X12_takes code (nI sp) (nI n) h = some (0, h) := by
  obtain ⟨c1, c2, c3, c4, c5⟩ := hc
  have e0 : nI p + 0 = nI p := nI_add p 0
  have es : ph_i h 43 9 (nI p) = h := ph_same c4
  unfold f_X12_takes
  rw [c4]
  by_cases hp : p < n
  · rw [if_neg (nI_ge hp (by omega)), nI_add, pu_gn (show sp + p < 400 by omega) (by decide), nI_clamp (by omega), c1 69 (by decide) (by decide) (by decide) (by decide) (by decide), if_neg (fun q => hq ⟨hp, q⟩), if_pos (show (0 : Int32) = 0 from rfl), pu_lt, e0, es]
  · rw [if_pos (nI_le (by omega) (by omega)), if_pos (show (0 : Int32) = 0 from rfl), pu_lt, e0, es]
theorem m_f1 {g h : PH} {sp n p lo hi d : Nat} {but : Int32} (hsp : sp + n ≤ 400) (hc : MF g sp n h p) (hh : hi ≤ 9) (hd : dgt (fun i => g.1 69 (sp + i)) n p lo hi d) (hb : ¬ nI d = but) : f_X12_readsFigure (nI sp) (nI n) (nI lo) (nI hi) but h = some (1, ph_i (ph_i h 43 10 (nI d)) 43 9 (nI (p + 1))) := by
  obtain ⟨c1, c2, c3, c4, c5⟩ := hc
  obtain ⟨d1, d2, d3, d4⟩ := hd
  have d2' : g.1 69 (sp + p) = nI (48 + d) := d2
  unfold f_X12_readsFigure
  have e1 : nI (48 + d) - 48 = nI d := by
    show nI (48 + d) - nI 48 = nI d
    rw [nI_sub (by omega), Nat.add_sub_cancel_left]
  rw [c4, if_neg (nI_ge d1 (by omega)), nI_add, pu_gn (show sp + p < 400 by omega) (by decide), nI_clamp (by omega), c1 69 (by decide) (by decide) (by decide) (by decide) (by decide), d2', e1, pu_lt, pr_eq, if_pos rfl, f_ini, i_l, i_l, nI_toInt (by omega), nI_toInt (by omega), nI_toInt (by omega), if_pos (by omega), pu_b1, if_neg (show ¬ (1 : Int32) = 0 by decide), if_neg hb, if_neg (show ¬ (1 : Int32) = 0 by decide), pu_lt, pr_eq, if_neg (by decide), c4, ← nI_succ]
theorem m_f0 {g h : PH} {sp n p lo hi : Nat} {but : Int32} (hsp : sp + n ≤ 400) (hc : MF g sp n h p) (hh : hi ≤ 9) (hl : lo ≤ 9) (hd : ¬ ∃ d, dgt (fun i => g.1 69 (sp + i)) n p lo hi d ∧ ¬ nI d = but) : ∃ v, f_X12_readsFigure (nI sp) (nI n) (nI lo) (nI hi) but h = some (0, ph_i h 43 10 v) := by
  have hc' := hc
  obtain ⟨c1, c2, c3, c4, c5⟩ := hc
  have e0 : nI p + 0 = nI p := nI_add p 0
  have es : ∀ v, ph_i (ph_i h 43 10 v) 43 9 (nI p) = ph_i h 43 10 v := fun v => ph_same (by rw [pr_eq, if_neg (by decide)]; exact c4)
  have e9 : ∀ v, (ph_i h 43 10 v).1 43 9 = nI p := fun v => by rw [pr_eq, if_neg (by decide)]; exact c4
  have e10 : ∀ v, (ph_i h 43 10 v).1 43 10 = v := fun v => by rw [pr_eq, if_pos rfl]
  unfold f_X12_readsFigure
  rw [c4]
  by_cases hp : p < n
  · rw [if_neg (nI_ge hp (by omega)), nI_add, pu_gn (show sp + p < 400 by omega) (by decide), nI_clamp (by omega), c1 69 (by decide) (by decide) (by decide) (by decide) (by decide), pu_lt, e9, e10, f_ini, i_l, i_l, nI_toInt (by omega), nI_toInt (by omega), e0]
    by_cases hin : (lo : Int) ≤ (g.1 69 (sp + p) - 48).toInt ∧ (g.1 69 (sp + p) - 48).toInt ≤ hi
    · rw [if_pos hin, pu_b1, if_neg (show ¬ (1 : Int32) = 0 by decide)]
      obtain ⟨d, hd31, hde⟩ := x_of (show 0 ≤ (g.1 69 (sp + p) - 48).toInt by omega)
      rw [hde, nI_toInt hd31] at hin
      have hT : g.1 69 (sp + p) = nI (48 + d) := by
        rw [← nI_add, ← hde, Int32.add_comm]
        show _ = g.1 69 (sp + p) - 48 + 48
        rw [Int32.sub_add_cancel]
      have hb : nI d = but := by
        by_cases hb : nI d = but
        · exact hb
        · exact absurd ⟨d, ⟨hp, hT, by omega, by omega⟩, hb⟩ hd
      refine ⟨nI d, ?_⟩
      rw [hde, if_pos hb, if_pos (show (0 : Int32) = 0 from rfl), pu_lt, es]
    · refine ⟨g.1 69 (sp + p) - 48, ?_⟩
      rw [if_neg hin, pu_b1, if_pos (show (0 : Int32) = 0 from rfl), if_pos (show (0 : Int32) = 0 from rfl), pu_lt, es]
  · refine ⟨-9, ?_⟩
    have h9 : (-9 : Int32).toInt = -9 := rfl
    rw [if_pos (nI_le (by omega) (by omega)), pu_lt, e9, e10, f_ini, i_l, i_l, nI_toInt (by omega), nI_toInt (by omega), e0, if_neg (by omega), pu_b1, if_pos (show (0 : Int32) = 0 from rfl), if_pos (show (0 : Int32) = 0 from rfl), pu_lt, es]
