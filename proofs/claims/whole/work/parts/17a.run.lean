/-! THE RUN between two places: both walk by the first run that lies on a shortest way -/
theorem x8 (a b : Nat) : nI a * 8 + nI b = nI (8 * a + b) := by
  show nI a * nI 8 + nI b = _
  rw [nI_mul, nI_add, Nat.mul_comm]
theorem x8' (a b : Nat) : 8 * nI a + nI b = nI (8 * a + b) := by
  show nI 8 * nI a + nI b = _
  rw [nI_mul, nI_add]
theorem least_of (p : Nat → Prop) : ∀ k, p k → ∃ m, m ≤ k ∧ p m ∧ ∀ i, i < m → ¬ p i := by
  intro k
  induction k using Nat.strongRecOn with
  | _ k ih =>
    intro hk
    by_cases hq : ∃ i, i < k ∧ p i
    · obtain ⟨i, h1, h2⟩ := hq
      obtain ⟨m, m1, m2, m3⟩ := ih i h1 h2
      exact ⟨m, by omega, m2, m3⟩
    · exact ⟨k, Nat.le_refl k, hk, fun i hi hp => hq ⟨i, hi, hp⟩⟩
theorem d_16 {h : PH} (hX : iv_X h) {a b : Nat} (ha : a < hv_P h) (hb : b < hv_P h) : h.1 16 (8 * a + b) = nI (hv_D h a b) := (hX.1 a b ha hb).1
theorem d_le {h : PH} (hX : iv_X h) {a b : Nat} (ha : a < hv_P h) (hb : b < hv_P h) : hv_D h a b < 100000 ∨ hv_D h a b = 1000000 := hX.2.2.2.2 a b ha hb
theorem d_53 {h : PH} (hX : iv_X h) {a b : Nat} (ha : a < hv_P h) (hb : b < hv_P h) : h.1 53 (8 * a + b) = nI (if hv_D h a b = 1000000 then 10000000 else hv_D h a b) := by
  rw [(hX.1 a b ha hb).2.2]
  by_cases hq : hv_D h a b = 1000000
  · rw [if_pos hq, if_pos hq]
  · rw [if_neg hq, if_neg hq]
/-- a run that begins a shortest way -/
def sp_r (h : PH) (a b i : Nat) : Prop := h.1 15 i = 0 ∧ ((hv_f h i = a ∧ hv_c h i + hv_D h (hv_t h i) b = hv_D h a b) ∨ (hv_t h i = a ∧ hv_c h i + hv_D h (hv_f h i) b = hv_D h a b))
theorem s_length {h : PH} (hH : iv_H h) {i : Nat} (hi : i < hv_R h) : f_X3_length (nI i) h = some (nI (hv_c h i)) := by
  obtain ⟨_, _, _, ⟨k8, k9, k10, _⟩, ⟨k12, k13, _⟩, _, _⟩ := hH.2.2.2 i hi
  have hR := hH.2.2.1.2.1
  have hc : (nI i).toNatClampNeg = i := nI_clamp (by omega)
  unfold f_X3_length
  rw [pu_gn (show i < 14 by omega) (by decide), pu_gn (show i < 14 by omega) (by decide), hc, k8, k12]
  show some (nI _ * nI 1000 + nI _) = _
  rw [nI_mul, nI_add, Nat.mul_comm]
theorem m_costOf {h : PH} (hH : iv_H h) {i : Nat} (hi : i < hv_R h) : f_X12_costOf (nI i) h = some (nI (hv_c h i)) := by
  obtain ⟨_, _, _, ⟨k8, k9, k10, k11⟩, ⟨k12, k13, k14⟩, _, _⟩ := hH.2.2.2 i hi
  have hR := hH.2.2.1.2.1
  have hc : (nI i).toNatClampNeg = i := nI_clamp (by omega)
  unfold f_X12_costOf
  rw [pu_gn (show i < 14 by omega) (by decide), pu_gn (show i < 14 by omega) (by decide), hc, k11, k14, k8, k12]
  show some (nI 1000 * nI _ + nI _) = _
  rw [nI_mul, nI_add]
theorem s_other {h : PH} (hH : iv_H h) {i a : Nat} (hi : i < hv_R h) (ha : a < hv_P h) : f_X3_otherEnd (nI i) (nI a) h = some (nI (if hv_f h i = a then hv_t h i else hv_f h i)) := by
  obtain ⟨⟨k1, k2, _⟩, ⟨k4, k5, _⟩, _⟩ := hH.2.2.2 i hi
  have hR := hH.2.2.1.2.1
  have hP := hH.1.2.1
  have hc : (nI i).toNatClampNeg = i := nI_clamp (by omega)
  unfold f_X3_otherEnd
  rw [pu_gn (show i < 14 by omega) (by decide), hc, k1]
  by_cases hq : hv_f h i = a
  · rw [if_pos hq, if_pos (by rw [hq]), pu_gn (show i < 14 by omega) (by decide), k4]
  · rw [if_neg hq, if_neg (by rw [nI_eq (by omega) (by omega)]; exact hq), pu_gn (show i < 14 by omega) (by decide)]
theorem m_leads {h : PH} (hH : iv_H h) {i a : Nat} (hi : i < hv_R h) (ha : a < hv_P h) : f_X12_leadsTo (nI i) (nI a) h = some (if h.1 15 i = 0 then (if hv_f h i = a then nI (hv_t h i) else if hv_t h i = a then nI (hv_f h i) else -9) else -9) := by
  obtain ⟨⟨k1, k2, k3⟩, ⟨k4, k5, k6⟩, _, _, _, _, k16⟩ := hH.2.2.2 i hi
  have hR := hH.2.2.1.2.1
  have hP := hH.1.2.1
  have hc : (nI i).toNatClampNeg = i := nI_clamp (by omega)
  have g14 : ∀ (β : Type) (K : Option β), ga_i (nI i) 14 K = K := fun β K => pu_gn (show i < 14 by omega) (by decide)
  unfold f_X12_leadsTo
  rw [g14, hc, k16]
  by_cases ho : h.1 15 i = 0
  · rw [if_pos ho, if_pos ho, g14, k3, k1]
    by_cases hq : hv_f h i = a
    · rw [if_pos hq, if_pos (by rw [hq]), g14, k6, k4]
    · rw [if_neg hq, if_neg (by rw [nI_eq (by omega) (by omega)]; exact hq), g14, k6, k4]
      by_cases ht : hv_t h i = a
      · rw [if_pos ht, if_pos (by rw [ht]), g14]
      · rw [if_neg ht, if_neg (by rw [nI_eq (by omega) (by omega)]; exact ht)]
  · rw [if_neg ho, if_neg ho]
theorem s_first1 {h : PH} (hH : iv_H h) (hX : iv_X h) {a b i : Nat} (ha : a < hv_P h) (hb : b < hv_P h) (hi : i < hv_R h) (hD : hv_D h a b < 1000000) : (sp_r h a b i → lb_X3_firstStep_29 (nI a) (nI b) (nI (hv_D h a b)) h (nI i) = some (.inr (.inl (nI i)))) ∧ (¬ sp_r h a b i → lb_X3_firstStep_29 (nI a) (nI b) (nI (hv_D h a b)) h (nI i) = some (.inl (nI (i + 1)))) := by
  obtain ⟨⟨k1, k2, k3⟩, ⟨k4, k5, k6⟩, kne, ⟨k8, k9, k10, k11⟩, ⟨k12, k13, k14⟩, _, k16⟩ := hH.2.2.2 i hi
  have hR := hH.2.2.1.2.1
  have hP := hH.1.2.1
  have r2 := hH.2.2.1.1
  have hc : (nI i).toNatClampNeg = i := nI_clamp (by omega)
  have g14 : ∀ (β : Type) (K : Option β), ga_i (nI i) 14 K = K := fun β K => pu_gn (show i < 14 by omega) (by decide)
  have nR : ¬ nI (hv_R h) ≤ nI i := nI_ge hi (by omega)
  have len := s_length hH hi
  have oth := s_other hH hi ha
  have lt := d_le hX k5 hb
  have lf := d_le hX k2 hb
  have cc : hv_c h i ≤ 9009 := by unfold hv_c; omega
  unfold lb_X3_firstStep_29
  rw [r2, if_neg nR, g14, hc]
  by_cases ho : h.1 15 i = 0
  · rw [if_pos ho, g14, k1]
    by_cases hq : hv_f h i = a
    · rw [if_pos (by rw [hq]), len, pu_b1, oth, pu_b1, if_pos hq, x8, pu_gn (show 8 * hv_t h i + b < 64 by omega) (by decide), nI_clamp (by omega), d_16 hX k5 hb, nI_add]
      have e : sp_r h a b i ↔ hv_c h i + hv_D h (hv_t h i) b = hv_D h a b := by
        unfold sp_r
        constructor
        · rintro ⟨_, h1 | h1⟩
          · exact h1.2
          · exfalso; exact kne (by rw [hq, h1.1])
        · intro h1; exact ⟨ho, Or.inl ⟨hq, h1⟩⟩
      rw [e]
      by_cases hz : hv_c h i + hv_D h (hv_t h i) b = hv_D h a b
      · refine ⟨fun _ => ?_, fun q => absurd hz q⟩
        rw [if_pos (by rw [hz])]
      · refine ⟨fun q => absurd q hz, fun _ => ?_⟩
        rw [if_neg (by rw [nI_eq (by omega) (by omega)]; exact hz), pu_lt, ← nI_succ]
    · rw [if_neg (by rw [nI_eq (by omega) (by omega)]; exact hq), g14, k4]
      by_cases ht : hv_t h i = a
      · rw [if_pos (by rw [ht]), len, pu_b1, oth, pu_b1, if_neg hq, x8, pu_gn (show 8 * hv_f h i + b < 64 by omega) (by decide), nI_clamp (by omega), d_16 hX k2 hb, nI_add]
        have e : sp_r h a b i ↔ hv_c h i + hv_D h (hv_f h i) b = hv_D h a b := by
          unfold sp_r
          constructor
          · rintro ⟨_, h1 | h1⟩
            · exact absurd h1.1 hq
            · exact h1.2
          · intro h1; exact ⟨ho, Or.inr ⟨ht, h1⟩⟩
        rw [e]
        by_cases hz : hv_c h i + hv_D h (hv_f h i) b = hv_D h a b
        · refine ⟨fun _ => ?_, fun q => absurd hz q⟩
          rw [if_pos (by rw [hz])]
        · refine ⟨fun q => absurd q hz, fun _ => ?_⟩
          rw [if_neg (by rw [nI_eq (by omega) (by omega)]; exact hz), pu_lt, ← nI_succ]
      · rw [if_neg (by rw [nI_eq (by omega) (by omega)]; exact ht), pu_lt, ← nI_succ]
        refine ⟨fun q => ?_, fun _ => rfl⟩
        exfalso
        rcases q.2 with h1 | h1
        · exact hq h1.1
        · exact ht h1.1
  · rw [if_neg ho, pu_lt, ← nI_succ]
    exact ⟨fun q => absurd q.1 ho, fun _ => rfl⟩
theorem m_there {h : PH} (hH : iv_H h) (hX : iv_X h) {a b : Nat} (ha : a < hv_P h) (hb : b < hv_P h) : f_X12_isThere (nI a) (nI b) h = some (if hv_D h a b < 1000000 then 1 else 0) := by
  have hP := hH.1.2.1
  have lt := d_le hX ha hb
  unfold f_X12_isThere
  rw [x8', pu_gn (show 8 * a + b < 64 by omega) (by decide), nI_clamp (by omega), d_53 hX ha hb]
  by_cases hq : hv_D h a b = 1000000
  · rw [if_pos hq, if_pos (show (10000000 : Int32) ≤ nI 10000000 by decide), if_neg (by omega)]
  · rw [if_neg hq, if_neg (show ¬ (10000000 : Int32) ≤ nI (hv_D h a b) from nI_ge (b := 10000000) (by omega) (by decide)), if_pos (by omega)]
theorem m_next1 {h : PH} (hH : iv_H h) (hX : iv_X h) {a b i : Nat} (ha : a < hv_P h) (hb : b < hv_P h) (hab : a ≠ b) (hi : i < hv_R h) (hD : hv_D h a b < 1000000) : (sp_r h a b i → lb_X12_nextRun_2 (nI a) (nI b) h (nI i) = some (.inr (.inl (nI i)))) ∧ (¬ sp_r h a b i → lb_X12_nextRun_2 (nI a) (nI b) h (nI i) = some (.inl (nI (i + 1)))) := by
  obtain ⟨⟨k1, k2, k3⟩, ⟨k4, k5, k6⟩, kne, ⟨k8, k9, k10, k11⟩, ⟨k12, k13, k14⟩, _, k16⟩ := hH.2.2.2 i hi
  have hR := hH.2.2.1.2.1
  have hP := hH.1.2.1
  have r2 := hH.2.2.1.1
  have r3 := hH.2.2.1.2.2
  have nR : ¬ nI (hv_R h) ≤ nI i := nI_ge hi (by omega)
  have lt := d_le hX k5 hb
  have lf := d_le hX k2 hb
  have cc : hv_c h i ≤ 9009 := by unfold hv_c; omega
  have n9 : (-9 : Int32) < 0 := by decide
  have far : ∀ d e : Nat, (e < 100000 ∨ e = 1000000) → d ≤ 9009 → ((nI (if e = 1000000 then 10000000 else e) + nI d = nI (if hv_D h a b = 1000000 then 10000000 else hv_D h a b)) ↔ d + e = hv_D h a b) := by
    intro d e he hd
    rw [nI_add, if_neg (show ¬ hv_D h a b = 1000000 by omega)]
    by_cases hq : e = 1000000
    · rw [if_pos hq, nI_eq (by omega) (by omega)]; omega
    · rw [if_neg hq, nI_eq (by omega) (by omega)]; omega
  unfold lb_X12_nextRun_2
  rw [r3, r2, if_neg nR, if_neg (by rw [nI_eq (by omega) (by omega)]; exact hab), m_there hH hX ha hb, if_pos hD, pu_b1, if_neg (show ¬ (1 : Int32) = 0 by decide), m_leads hH hi ha, pu_b1]
  by_cases ho : h.1 15 i = 0
  · rw [if_pos ho]
    by_cases hq : hv_f h i = a
    · rw [if_pos hq, if_neg (nI_pos (by omega)), x8', pu_gn (show 8 * hv_t h i + b < 64 by omega) (by decide), m_costOf hH hi, pu_b1, x8', pu_gn (show 8 * a + b < 64 by omega) (by decide), nI_clamp (by omega), nI_clamp (by omega), d_53 hX k5 hb, d_53 hX ha hb]
      have e : sp_r h a b i ↔ hv_c h i + hv_D h (hv_t h i) b = hv_D h a b := by
        unfold sp_r
        constructor
        · rintro ⟨_, h1 | h1⟩
          · exact h1.2
          · exfalso; exact kne (by rw [hq, h1.1])
        · intro h1; exact ⟨ho, Or.inl ⟨hq, h1⟩⟩
      have fr := far (hv_c h i) (hv_D h (hv_t h i) b) lt cc
      rw [e]
      by_cases hz : hv_c h i + hv_D h (hv_t h i) b = hv_D h a b
      · refine ⟨fun _ => ?_, fun q => absurd hz q⟩
        rw [if_pos (fr.mpr hz)]
      · refine ⟨fun q => absurd q hz, fun _ => ?_⟩
        rw [if_neg (fun q => hz (fr.mp q)), pu_lt, ← nI_succ]
    · rw [if_neg hq]
      by_cases ht : hv_t h i = a
      · rw [if_pos ht, if_neg (nI_pos (by omega)), x8', pu_gn (show 8 * hv_f h i + b < 64 by omega) (by decide), m_costOf hH hi, pu_b1, x8', pu_gn (show 8 * a + b < 64 by omega) (by decide), nI_clamp (by omega), nI_clamp (by omega), d_53 hX k2 hb, d_53 hX ha hb]
        have e : sp_r h a b i ↔ hv_c h i + hv_D h (hv_f h i) b = hv_D h a b := by
          unfold sp_r
          constructor
          · rintro ⟨_, h1 | h1⟩
            · exact absurd h1.1 hq
            · exact h1.2
          · intro h1; exact ⟨ho, Or.inr ⟨ht, h1⟩⟩
        have fr := far (hv_c h i) (hv_D h (hv_f h i) b) lf cc
        rw [e]
        by_cases hz : hv_c h i + hv_D h (hv_f h i) b = hv_D h a b
        · refine ⟨fun _ => ?_, fun q => absurd hz q⟩
          rw [if_pos (fr.mpr hz)]
        · refine ⟨fun q => absurd q hz, fun _ => ?_⟩
          rw [if_neg (fun q => hz (fr.mp q)), pu_lt, ← nI_succ]
      · rw [if_neg ht, if_pos n9, pu_lt, ← nI_succ]
        refine ⟨fun q => ?_, fun _ => rfl⟩
        exfalso
        rcases q.2 with h1 | h1
        · exact hq h1.1
        · exact ht h1.1
  · rw [if_neg ho, if_pos n9, pu_lt, ← nI_succ]
    exact ⟨fun q => absurd q.1 ho, fun _ => rfl⟩
/-- no step: the same place, or no way -/
theorem no_step {h : PH} (hH : iv_H h) (hX : iv_X h) {a b : Nat} (ha : a < hv_P h) (hb : b < hv_P h) (hq : a = b ∨ hv_D h a b = 1000000) : f_X3_firstStep (nI a) (nI b) h = some (-9) ∧ f_X12_nextRun (nI a) (nI b) h = some (-9) := by
  have hP := hH.1.2.1
  have r2 := hH.2.2.1.1
  have r3 := hH.2.2.1.2.2
  have hR := hH.2.2.1.2.1
  constructor
  · unfold f_X3_firstStep
    rw [x8, pu_gn (show 8 * a + b < 64 by omega) (by decide), nI_clamp (by omega), d_16 hX ha hb, pu_lt]
    by_cases hab : a = b
    · rw [if_pos (by rw [hab])]
    · have hd : hv_D h a b = 1000000 := hq.resolve_left hab
      rw [if_neg (by rw [nI_eq (by omega) (by omega)]; exact hab), hd, if_neg (show ¬ nI 1000000 < 1000000 by decide)]
  · unfold f_X12_nextRun
    have hl : lp_f (fun s => lb_X12_nextRun_2 (nI a) (nI b) h s) fu_l 0 = some (.inr 0) := by
      have : fu_l = 9999 + 1 := rfl
      rw [this]
      apply lp_r
      show lb_X12_nextRun_2 (nI a) (nI b) h 0 = _
      unfold lb_X12_nextRun_2
      by_cases h0 : h.1 43 3 ≤ 0
      · rw [if_pos h0]
      · rw [if_neg h0]
        by_cases hab : a = b
        · rw [if_pos (by rw [hab])]
        · have hd : hv_D h a b = 1000000 := hq.resolve_left hab
          rw [if_neg (by rw [nI_eq (by omega) (by omega)]; exact hab), m_there hH hX ha hb, if_neg (by omega), pu_b1, if_pos rfl]
    rw [hl, pu_b1]
    rfl
/-- a step: the same run, to the same place, nearer -/
theorem one_step {h : PH} (hH : iv_H h) (hX : iv_X h) {a b : Nat} (ha : a < hv_P h) (hb : b < hv_P h) (hab : a ≠ b) (hD : hv_D h a b < 1000000) : ∃ k c, k < 14 ∧ c < hv_P h ∧ hv_D h c b < hv_D h a b ∧ f_X3_firstStep (nI a) (nI b) h = some (nI k) ∧ f_X12_nextRun (nI a) (nI b) h = some (nI k) ∧ f_X3_otherEnd (nI k) (nI a) h = some (nI c) ∧ f_X12_leadsTo (nI k) (nI a) h = some (nI c) := by
  have hP := hH.1.2.1
  have r2 := hH.2.2.1.1
  have r3 := hH.2.2.1.2.2
  have hR := hH.2.2.1.2.1
  obtain ⟨k0, b0, hb0, ⟨ho1, ho2, ho3⟩, hs⟩ := hX.2.2.2.1 a b ha hb hab hD
  have s0 : k0 < hv_R h ∧ sp_r h a b k0 := by
    refine ⟨ho1, ho2, ?_⟩
    rcases ho3 with ⟨q1, q2⟩ | ⟨q1, q2⟩
    · exact Or.inl ⟨q1, by rw [q2]; omega⟩
    · exact Or.inr ⟨q2, by rw [q1]; omega⟩
  obtain ⟨k, hk0, ⟨hk, hsp⟩, hmin⟩ := least_of (fun i => i < hv_R h ∧ sp_r h a b i) k0 s0
  have hno : ∀ i, i < k → ¬ sp_r h a b i := fun i hi q => hmin i hi ⟨by omega, q⟩
  obtain ⟨⟨k1, k2, _⟩, ⟨k4, k5, _⟩, kne, ⟨k8, k9, k10, _⟩, ⟨k12, k13, _⟩, _⟩ := hH.2.2.2 k hk
  have cc : 1000 ≤ hv_c h k := by unfold hv_c; omega
  have L1 : lp_f (fun s => lb_X3_firstStep_29 (nI a) (nI b) (nI (hv_D h a b)) h s) fu_l 0 = some (.inl (nI k)) :=
    lp_cnt (fun i => nI i) k _ (fun i hi => (s_first1 hH hX ha hb (by omega) hD).2 (hno i hi)) ((s_first1 hH hX ha hb hk hD).1 hsp) fu_l 0 (by omega) (by unfold fu_l; omega)
  have L2 : lp_f (fun s => lb_X12_nextRun_2 (nI a) (nI b) h s) fu_l 0 = some (.inl (nI k)) :=
    lp_cnt (fun i => nI i) k _ (fun i hi => (m_next1 hH hX ha hb hab (by omega) hD).2 (hno i hi)) ((m_next1 hH hX ha hb hab hk hD).1 hsp) fu_l 0 (by omega) (by unfold fu_l; omega)
  have F1 : f_X3_firstStep (nI a) (nI b) h = some (nI k) := by
    unfold f_X3_firstStep
    rw [x8, pu_gn (show 8 * a + b < 64 by omega) (by decide), nI_clamp (by omega), d_16 hX ha hb, pu_lt, if_neg (by rw [nI_eq (by omega) (by omega)]; exact hab), if_pos (show nI (hv_D h a b) < 1000000 from nI_lt hD (by decide)), L1, pu_b1]
    rfl
  have F2 : f_X12_nextRun (nI a) (nI b) h = some (nI k) := by
    unfold f_X12_nextRun
    rw [L2, pu_b1]
    rfl
  have O1 := s_other hH hk ha
  have O2 := m_leads hH hk ha
  rw [if_pos hsp.1] at O2
  rcases hsp.2 with ⟨q1, q2⟩ | ⟨q1, q2⟩
  · rw [if_pos q1] at O1 O2
    exact ⟨k, hv_t h k, by omega, k5, by omega, F1, F2, O1, O2⟩
  · have hf : ¬ hv_f h k = a := fun q => kne (by rw [q, q1])
    rw [if_neg hf] at O1 O2
    rw [if_pos q1] at O2
    exact ⟨k, hv_f h k, by omega, k2, by omega, F1, F2, O1, O2⟩
def sq (v : Int32) (K : Nat → Int32) : Nat → Int32
  | 0 => v
  | i + 1 => K i
/-- the whole way, as both walk it -/
theorem walks {h : PH} (hH : iv_H h) (hX : iv_X h) {b : Nat} (hb : b < hv_P h) : ∀ (r a : Nat), a < hv_P h → hv_D h a b < 1000000 → nr (hv_P h) (hv_D h) a b ≤ r → ∃ (L : Nat) (K : Nat → Int32), L ≤ r ∧ (∀ i, i < L → ∃ k, k < 14 ∧ K i = nI k) ∧ (∀ i, L ≤ i → K i = -9) ∧ (∀ s F, s + L ≤ 8 → L < F → lp_f (fun s => lb_X3_stepsFrom_5 (nI b) h s.1 s.2) F (nI s, nI a) = some (.inr (nI (s + L), nI b))) ∧ (∀ s w F, s ≤ w → w < 2 ^ 31 → s + L ≤ 7 → L < F → lp_f (fun s => lb_X3_stepOf_6 (nI b) (nI w) h s.1 s.2) F (nI a, nI s) = some (.inl (K (w - s)))) ∧ f_X12_nextRun (nI a) (nI b) h = some (K 0) ∧ ∀ x w F, x ≤ w → w < 2 ^ 31 → L < F → ∃ y z, lp_f (fun s => lb_X12_runOf_15 (nI b) (nI w) h s.1 s.2.1 s.2.2) F (nI a, K 0, nI x) = some (y, K (w - x), z) := by
  have hP := hH.1.2.1
  intro r
  induction r with
  | zero =>
    intro a ha hD hr
    by_cases hab : a = b
    · subst hab
      obtain ⟨n1, n2⟩ := no_step hH hX ha hb (Or.inl rfl)
      refine ⟨0, fun _ => -9, Nat.le_refl 0, fun i hi => by omega, fun _ _ => rfl, ?_, ?_, n2, ?_⟩
      · intro s F hs hF
        obtain ⟨F', rfl⟩ : ∃ F', F = F' + 1 := ⟨F - 1, by omega⟩
        apply lp_r
        show lb_X3_stepsFrom_5 (nI a) h (nI s) (nI a) = _
        unfold lb_X3_stepsFrom_5
        rw [if_pos rfl, Nat.add_zero]
      · intro s w F hs hw h7 hF
        obtain ⟨F', rfl⟩ : ∃ F', F = F' + 1 := ⟨F - 1, by omega⟩
        apply lp_r
        show lb_X3_stepOf_6 (nI a) (nI w) h (nI a) (nI s) = _
        unfold lb_X3_stepOf_6
        rw [if_neg (show ¬ (8 : Int32) ≤ nI s from nI_ge (b := 8) (by omega) (by decide)), n1, pu_b1, if_pos rfl]
      · intro x w F hx hw hF
        obtain ⟨F', rfl⟩ : ∃ F', F = F' + 1 := ⟨F - 1, by omega⟩
        refine ⟨nI a, nI x, ?_⟩
        apply lp_r
        show lb_X12_runOf_15 (nI a) (nI w) h (nI a) (-9) (nI x) = _
        unfold lb_X12_runOf_15
        by_cases hq : nI w ≤ nI x
        · rw [if_pos hq]
        · rw [if_neg hq, if_pos (by decide)]
    · exfalso
      obtain ⟨k, c, _, hc, hlt, _⟩ := one_step hH hX ha hb hab hD
      have := nr_lt (D := hv_D h) hc hlt
      omega
  | succ r ih =>
    intro a ha hD hr
    by_cases hab : a = b
    · subst hab
      obtain ⟨n1, n2⟩ := no_step hH hX ha hb (Or.inl rfl)
      refine ⟨0, fun _ => -9, by omega, fun i hi => by omega, fun _ _ => rfl, ?_, ?_, n2, ?_⟩
      · intro s F hs hF
        obtain ⟨F', rfl⟩ : ∃ F', F = F' + 1 := ⟨F - 1, by omega⟩
        apply lp_r
        show lb_X3_stepsFrom_5 (nI a) h (nI s) (nI a) = _
        unfold lb_X3_stepsFrom_5
        rw [if_pos rfl, Nat.add_zero]
      · intro s w F hs hw h7 hF
        obtain ⟨F', rfl⟩ : ∃ F', F = F' + 1 := ⟨F - 1, by omega⟩
        apply lp_r
        show lb_X3_stepOf_6 (nI a) (nI w) h (nI a) (nI s) = _
        unfold lb_X3_stepOf_6
        rw [if_neg (show ¬ (8 : Int32) ≤ nI s from nI_ge (b := 8) (by omega) (by decide)), n1, pu_b1, if_pos rfl]
      · intro x w F hx hw hF
        obtain ⟨F', rfl⟩ : ∃ F', F = F' + 1 := ⟨F - 1, by omega⟩
        refine ⟨nI a, nI x, ?_⟩
        apply lp_r
        show lb_X12_runOf_15 (nI a) (nI w) h (nI a) (-9) (nI x) = _
        unfold lb_X12_runOf_15
        by_cases hq : nI w ≤ nI x
        · rw [if_pos hq]
        · rw [if_neg hq, if_pos (by decide)]
    · obtain ⟨k, c, hk, hc, hlt, f1, f2, o1, o2⟩ := one_step hH hX ha hb hab hD
      have hn := nr_lt (D := hv_D h) hc hlt
      obtain ⟨L, K, l1, l2, l3, l4, l5, l6, l7⟩ := ih c hc (by omega) (by omega)
      refine ⟨L + 1, sq (nI k) K, by omega, ?_, ?_, ?_, ?_, f2, ?_⟩
      · intro i hi
        cases i with
        | zero => exact ⟨k, hk, rfl⟩
        | succ i => exact l2 i (by omega)
      · intro i hi
        cases i with
        | zero => omega
        | succ i => exact l3 i (by omega)
      · intro s F hs hF
        obtain ⟨F', rfl⟩ : ∃ F', F = F' + 1 := ⟨F - 1, by omega⟩
        have e : lb_X3_stepsFrom_5 (nI b) h (nI s) (nI a) = some (.inl (nI (s + 1), nI c)) := by
          unfold lb_X3_stepsFrom_5
          rw [if_neg (by rw [nI_eq (by omega) (by omega)]; exact hab), if_neg (show ¬ (8 : Int32) ≤ nI s from nI_ge (b := 8) (by omega) (by decide)), f1, pu_b1, if_neg (n9_of (by omega)), o1, pu_b1, pu_lt, ← nI_succ]
        rw [lp_s (body := fun s => lb_X3_stepsFrom_5 (nI b) h s.1 s.2) (s := (nI s, nI a)) e, l4 (s + 1) F' (by omega) (by omega), show s + 1 + L = s + (L + 1) by omega]
      · intro s w F hs hw h7 hF
        obtain ⟨F', rfl⟩ : ∃ F', F = F' + 1 := ⟨F - 1, by omega⟩
        by_cases hsw : s = w
        · subst hsw
          rw [Nat.sub_self]
          apply lp_r
          show lb_X3_stepOf_6 (nI b) (nI s) h (nI a) (nI s) = _
          unfold lb_X3_stepOf_6
          rw [if_neg (show ¬ (8 : Int32) ≤ nI s from nI_ge (b := 8) (by omega) (by decide)), f1, pu_b1, if_neg (n9_of (by omega)), if_pos rfl]
          rfl
        · have e : lb_X3_stepOf_6 (nI b) (nI w) h (nI a) (nI s) = some (.inl (nI c, nI (s + 1))) := by
            unfold lb_X3_stepOf_6
            rw [if_neg (show ¬ (8 : Int32) ≤ nI s from nI_ge (b := 8) (by omega) (by decide)), f1, pu_b1, if_neg (n9_of (by omega)), if_neg (by rw [nI_eq (by omega) (by omega)]; exact hsw), o1, pu_b1, pu_lt, ← nI_succ]
          rw [lp_s (body := fun s => lb_X3_stepOf_6 (nI b) (nI w) h s.1 s.2) (s := (nI a, nI s)) e, l5 (s + 1) w F' (by omega) hw (by omega) (by omega), show w - s = (w - (s + 1)) + 1 by omega]
          rfl
      · intro x w F hx hw hF
        obtain ⟨F', rfl⟩ : ∃ F', F = F' + 1 := ⟨F - 1, by omega⟩
        by_cases hxw : x = w
        · subst hxw
          refine ⟨nI a, nI x, ?_⟩
          rw [Nat.sub_self]
          apply lp_r
          show lb_X12_runOf_15 (nI b) (nI x) h (nI a) (nI k) (nI x) = _
          unfold lb_X12_runOf_15
          rw [if_pos (nI_le (Nat.le_refl _) (by omega))]
          rfl
        · have e : lb_X12_runOf_15 (nI b) (nI w) h (nI a) (nI k) (nI x) = some (.inl (nI c, K 0, nI (x + 1))) := by
            unfold lb_X12_runOf_15
            rw [if_neg (nI_ge (by omega) (by omega)), if_neg (nI_pos (by omega)), o2, pu_b1, l6, pu_b1, pu_lt, ← nI_succ]
          obtain ⟨y, z, q⟩ := l7 (x + 1) w F' (by omega) hw (by omega)
          refine ⟨y, z, ?_⟩
          rw [show sq (nI k) K 0 = nI k from rfl, lp_s (body := fun s => lb_X12_runOf_15 (nI b) (nI w) h s.1 s.2.1 s.2.2) (s := (nI a, nI k, nI x)) e, q, show w - x = (w - (x + 1)) + 1 by omega]
          rfl
theorem o_along {n : Nat} {h : PH} (hi : Inv n h) (x y z : Int32) : ∃ r, f_X11_along x y z h = some r ∧ f_X12_along x y z h = some r := by
  have hH := hi.2.2.1
  have hX := hi.2.2.2.1
  have hP := hH.1.2.1
  rcases rg_pl hH x with ⟨a, ha, ha8, rfl, w1, w2⟩ | ⟨w1, w2⟩
  rotate_left
  · exact ⟨-1, by simp [f_X11_along, w1 h rfl, pu_b1], by simp [f_X12_along, w2 h rfl, pu_b1]⟩
  rcases rg_pl hH y with ⟨b, hb, hb8, rfl, v1, v2⟩ | ⟨v1, v2⟩
  rotate_left
  · exact ⟨-1, by simp [f_X11_along, w1 h rfl, v1 h rfl, pu_b1], by simp [f_X12_along, w2 h rfl, v2 h rfl, pu_b1]⟩
  by_cases hz : 0 ≤ z.toInt
  rotate_left
  · have q := nI_nge0 (show z.toInt < 0 by omega)
    exact ⟨-2, by simp [f_X11_along, w1 h rfl, v1 h rfl, pu_b1, q], by simp [f_X12_along, w2 h rfl, v2 h rfl, pu_b1, q]⟩
  obtain ⟨w, hw, rfl⟩ := x_of hz
  have q0 : (0 : Int32) ≤ nI w := nI_pos' hw
  have so : ∀ r, f_X3_stepOf (nI a) (nI b) (nI w) h = some r → f_X11_along (nI a) (nI b) (nI w) h = some r := by
    intro r e
    unfold f_X11_along
    rw [w1 h rfl, pu_b1, if_neg (show ¬ (1 : Int32) = 0 by decide), v1 h rfl, pu_b1, if_neg (show ¬ (1 : Int32) = 0 by decide), if_pos q0, e, pu_b1]
  have mo : ∀ r, (14 < w → r = -9) → (w ≤ 14 → f_X12_runOf (nI a) (nI b) (nI w) h = some r) → f_X12_along (nI a) (nI b) (nI w) h = some r := by
    intro r e1 e2
    unfold f_X12_along
    rw [w2 h rfl, pu_b1, if_pos rfl, v2 h rfl, pu_b1, if_pos rfl, if_pos q0]
    by_cases h14 : w ≤ 14
    · rw [if_pos (show nI w ≤ 14 from nI_le (b := 14) h14 (by decide)), e2 h14, pu_b1]
    · rw [if_neg (show ¬ nI w ≤ 14 from nI_ge (a := 14) (by omega) hw), e1 (by omega)]
  by_cases hD : hv_D h a b < 1000000
  · have hr := nr_le (D := hv_D h) (x := b) ha
    obtain ⟨L, K, l1, l2, l3, l4, l5, l6, l7⟩ := walks hH hX hb 7 a ha hD (by omega)
    refine ⟨K w, so _ ?_, mo _ (fun q => l3 w (by omega)) (fun q => ?_)⟩
    · unfold f_X3_stepOf
      have := l5 0 w fu_l (by omega) hw (by omega) (by unfold fu_l; omega)
      rw [show ((nI a, 0) : Int32 × Int32) = (nI a, nI 0) from rfl, this, pu_b1]
      rfl
    · unfold f_X12_runOf
      obtain ⟨y, z, e⟩ := l7 0 w fu_l (by omega) hw (by unfold fu_l; omega)
      rw [l6, pu_b1, show ((nI a, K 0, 0) : Int32 × Int32 × Int32) = (nI a, K 0, nI 0) from rfl, e, pu_b1]
      rfl
  · have hD1 : hv_D h a b = 1000000 := by
      rcases d_le hX ha hb with q | q <;> omega
    obtain ⟨n1, n2⟩ := no_step hH hX ha hb (Or.inr hD1)
    refine ⟨-9, so _ ?_, mo _ (fun _ => rfl) (fun _ => ?_)⟩
    · unfold f_X3_stepOf
      have : lp_f (fun s => lb_X3_stepOf_6 (nI b) (nI w) h s.1 s.2) fu_l (nI a, 0) = some (.inl (-9)) := by
        rw [show fu_l = 9999 + 1 from rfl]
        apply lp_r
        show lb_X3_stepOf_6 (nI b) (nI w) h (nI a) 0 = _
        unfold lb_X3_stepOf_6
        rw [if_neg (by decide), n1, pu_b1, if_pos rfl]
      rw [this, pu_b1]
      rfl
    · unfold f_X12_runOf
      have : lp_f (fun s => lb_X12_runOf_15 (nI b) (nI w) h s.1 s.2.1 s.2.2) fu_l (nI a, -9, 0) = some (nI a, -9, 0) := by
        rw [show fu_l = 9999 + 1 from rfl]
        apply lp_r
        show lb_X12_runOf_15 (nI b) (nI w) h (nI a) (-9) 0 = _
        unfold lb_X12_runOf_15
        by_cases hq : nI w ≤ 0
        · rw [if_pos hq]
        · rw [if_neg hq, if_pos (by decide)]
      rw [n2, pu_b1, this, pu_b1]
theorem o_run {n : Nat} {h : PH} (hi : Inv n h) (x y z : Int32) : ∃ r, f_X11_run x y z h = some r ∧ f_X12_run x y z h = some r := by
  have hH := hi.2.2.1
  have hX := hi.2.2.2.1
  have hP := hH.1.2.1
  rcases rg_pl hH x with ⟨a, ha, ha8, rfl, w1, w2⟩ | ⟨w1, w2⟩
  rotate_left
  · exact ⟨-1, by simp [f_X11_run, w1 h rfl, pu_b1], by simp [f_X12_run, w2 h rfl, pu_b1]⟩
  rcases rg_pl hH y with ⟨b, hb, hb8, rfl, v1, v2⟩ | ⟨v1, v2⟩
  rotate_left
  · exact ⟨-1, by simp [f_X11_run, w1 h rfl, v1 h rfl, pu_b1], by simp [f_X12_run, w2 h rfl, v2 h rfl, pu_b1]⟩
  have z0 : (0 : Int64).toInt = 0 := rfl
  have z2 : (2 : Int64).toInt = 2 := rfl
  have z3 : (2 : Int32).toInt = 2 := rfl
  by_cases hz : 0 ≤ z.toInt ∧ z.toInt ≤ 2
  rotate_left
  · refine ⟨-2, ?_, ?_⟩
    · by_cases hz0 : z.toInt < 0
      · simp [f_X11_run, w1 h rfl, v1 h rfl, pu_b1, nI_lt0 hz0]
      · have q : ¬ z ≤ 2 := by rw [i_le]; omega
        simp [f_X11_run, w1 h rfl, v1 h rfl, pu_b1, nI_nlt0 (show 0 ≤ z.toInt by omega), q]
    · have q : f_X12_in z.toInt64 0 2 h = some 0 := by rw [f_ini, if_neg (by omega)]
      simp [f_X12_run, w2 h rfl, v2 h rfl, pu_b1, q]
  have i1 : f_X12_in z.toInt64 0 2 h = some 1 := by rw [f_ini, if_pos (by omega)]
  have j1 : ¬ z < 0 := nI_nlt0 hz.1
  have j2 : z ≤ 2 := by rw [i_le]; omega
  have D16 := d_16 hX ha hb
  have D53 := d_53 hX ha hb
  have th := m_there hH hX ha hb
  by_cases hD : hv_D h a b < 1000000
  · have hr := nr_le (D := hv_D h) (x := b) ha
    rw [if_pos hD] at th
    rw [if_neg (show ¬ hv_D h a b = 1000000 by omega)] at D53
    obtain ⟨L, K, l1, l2, l3, l4, l5, l6, l7⟩ := walks hH hX hb 7 a ha hD (by omega)
    have jn : f_X3_isJoined (nI a) (nI b) h = some 1 := by
      unfold f_X3_isJoined
      rw [x8, pu_gn (show 8 * a + b < 64 by omega) (by decide), nI_clamp (by omega), D16, if_neg (show ¬ (1000000 : Int32) ≤ nI (hv_D h a b) from nI_ge hD (by decide))]
    have sf : f_X3_stepsFrom (nI a) (nI b) h = some (nI L) := by
      unfold f_X3_stepsFrom
      have := l4 0 fu_l (by omega) (by unfold fu_l; omega)
      rw [show ((0, nI a) : Int32 × Int32) = (nI 0, nI a) from rfl, this, pu_b1, Nat.zero_add]
      rfl
    have ro : ∀ w, w < 2 ^ 31 → f_X12_runOf (nI a) (nI b) (nI w) h = some (K w) := by
      intro w hw
      unfold f_X12_runOf
      obtain ⟨y, z, e⟩ := l7 0 w fu_l (by omega) hw (by unfold fu_l; omega)
      rw [l6, pu_b1, show ((nI a, K 0, 0) : Int32 × Int32 × Int32) = (nI a, K 0, nI 0) from rfl, e, pu_b1]
      rfl
    have lp : lp_f (fun s => lb_X12_run_48 (nI a) (nI b) z h s) fu_l 0 = some (nI L) := by
      refine lp_cnt (fun i => nI i) L _ (fun i hi => ?_) ?_ fu_l 0 (by omega) (by unfold fu_l; omega)
      · show lb_X12_run_48 (nI a) (nI b) z h (nI i) = _
        unfold lb_X12_run_48
        obtain ⟨k, k1, k2⟩ := l2 i hi
        rw [ro i (by omega), pu_b1, k2, if_neg (nI_pos (by omega)), pu_lt, ← nI_succ]
      · show lb_X12_run_48 (nI a) (nI b) z h (nI L) = _
        unfold lb_X12_run_48
        rw [ro L (by omega), pu_b1, l3 L (Nat.le_refl L), if_pos (by decide)]
    have ca : f_X11_run (nI a) (nI b) z h = if z = 0 then (bd_1 (f_X3_yardsFrom (nI a) (nI b) h) fun r_7 => some r_7) else (if z = 1 then (bd_1 (f_X3_drilledFrom (nI a) (nI b) h) fun r_5 => some r_5) else (bd_1 (f_X3_stepsFrom (nI a) (nI b) h) fun r_4 => some r_4)) := by
      unfold f_X11_run
      rw [w1 h rfl, pu_b1, if_neg (show ¬ (1 : Int32) = 0 by decide), v1 h rfl, pu_b1, if_neg (show ¬ (1 : Int32) = 0 by decide), if_neg j1, if_pos j2, jn, pu_b1, if_neg (show ¬ (1 : Int32) = 0 by decide)]
    have ma : f_X12_run (nI a) (nI b) z h = if z = 0 then (bd_1 (f_X12_yards (nI a) (nI b) h) fun r_14 => some r_14) else (if z = 1 then (ga_i ((8 * nI a) + nI b) 64 (some ((h.1 53 ((8 * nI a) + nI b).toNatClampNeg) - (h.1 53 ((8 * nI a) + nI b).toNatClampNeg) / 1000 * 1000))) else some (nI L)) := by
      unfold f_X12_run
      rw [w2 h rfl, pu_b1, if_pos rfl, v2 h rfl, pu_b1, if_pos rfl, i1, pu_b1, if_neg (show ¬ (1 : Int32) = 0 by decide), th, pu_b1, if_neg (show ¬ (1 : Int32) = 0 by decide), lp, pu_b1]
    by_cases y0 : z = 0
    · refine ⟨nI (hv_D h a b) / 1000, ?_, ?_⟩
      · rw [ca, if_pos y0]
        unfold f_X3_yardsFrom
        rw [x8, pu_gn (show 8 * a + b < 64 by omega) (by decide), nI_clamp (by omega), D16, pu_lt, if_neg (show ¬ (1000000 : Int32) ≤ nI (hv_D h a b) from nI_ge hD (by decide)), pu_b1]
      · rw [ma, if_pos y0]
        unfold f_X12_yards
        rw [x8', pu_gn (show 8 * a + b < 64 by omega) (by decide), nI_clamp (by omega), D53, pu_b1]
    · by_cases y1 : z = 1
      · refine ⟨nI (hv_D h a b) - nI (hv_D h a b) / 1000 * 1000, ?_, ?_⟩
        · rw [ca, if_neg y0, if_pos y1]
          unfold f_X3_drilledFrom
          rw [x8, pu_gn (show 8 * a + b < 64 by omega) (by decide), nI_clamp (by omega), D16, pu_b1]
        · rw [ma, if_neg y0, if_pos y1, x8', pu_gn (show 8 * a + b < 64 by omega) (by decide), nI_clamp (by omega), D53]
      · refine ⟨nI L, ?_, ?_⟩
        · rw [ca, if_neg y0, if_neg y1, sf, pu_b1]
        · rw [ma, if_neg y0, if_neg y1]
  · have hD1 : hv_D h a b = 1000000 := by
      rcases d_le hX ha hb with q | q <;> omega
    rw [if_neg hD] at th
    refine ⟨-9, ?_, ?_⟩
    · have jn : f_X3_isJoined (nI a) (nI b) h = some 0 := by
        unfold f_X3_isJoined
        rw [x8, pu_gn (show 8 * a + b < 64 by omega) (by decide), nI_clamp (by omega), D16, hD1, if_pos (by decide)]
      unfold f_X11_run
      rw [w1 h rfl, pu_b1, if_neg (show ¬ (1 : Int32) = 0 by decide), v1 h rfl, pu_b1, if_neg (show ¬ (1 : Int32) = 0 by decide), if_neg j1, if_pos j2, jn, pu_b1, if_pos rfl]
    · unfold f_X12_run
      rw [w2 h rfl, pu_b1, if_pos rfl, v2 h rfl, pu_b1, if_pos rfl, i1, pu_b1, if_neg (show ¬ (1 : Int32) = 0 by decide), th, pu_b1, if_pos rfl]
