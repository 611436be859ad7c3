theorem hr_of {g : PH} (hH : iv_H g) : hr_c g (hv_P g) (hv_R g) (hv_f g) (hv_t g) (hv_y g) (hv_d g) ∧ hr_m g (hv_P g) (hv_R g) (hv_f g) (hv_t g) (hv_y g) (hv_d g) := by
  obtain ⟨⟨a1, a2, a3⟩, _, ⟨c1, c2, c3⟩, hk⟩ := hH
  refine ⟨⟨a1, c1, a2, c2, fun k hk2 => ?_⟩, ⟨by rw [a3]; exact a1, by rw [c3]; exact c1, a2, c2, fun k hk2 => ?_⟩⟩
  · obtain ⟨⟨k1, k2, k3⟩, ⟨k4, k5, k6⟩, k7, ⟨k8, k9, k10, k11⟩, ⟨k12, k13, k14⟩, k15, k16⟩ := hk k hk2
    exact ⟨k1, k4, k8, k12, k2, k5, k9, k10, k13⟩
  · obtain ⟨⟨k1, k2, k3⟩, ⟨k4, k5, k6⟩, k7, ⟨k8, k9, k10, k11⟩, ⟨k12, k13, k14⟩, k15, k16⟩ := hk k hk2
    exact ⟨by rw [k3]; exact k1, by rw [k6]; exact k4, by rw [k11]; exact k8, by rw [k14]; exact k12, k2, k5, k9, k10, k13⟩
theorem op_hv (g : PH) : op_ (hv_R g) (hv_f g) (hv_t g) (fun k => g.1 15 k == 0) = hv_o g := by
  funext k a b
  unfold op_ hv_o
  rw [beq_iff_eq]
theorem iv_d_c {P : Nat} {op : Nat → Nat → Nat → Prop} {c : Nat → Nat} {D D2 : Nat → Nat → Nat} (h : iv_d P op c D) (e : ∀ a b, a < P → b < P → D2 a b = D a b) : iv_d P op c D2 := by
  obtain ⟨h1, h2, h3, h4⟩ := h
  refine ⟨fun a ha => by rw [e a a ha ha]; exact h1 a ha, fun k a b x ha hb hx ho => by rw [e a x ha hx, e b x hb hx]; exact h2 k a b x ha hb hx ho, fun a x ha hx hne hq => ?_, fun a b ha hb => by rw [e a b ha hb]; exact h4 a b ha hb⟩
  rw [e a x ha hx] at hq ⊢
  obtain ⟨k, b, hb, h5, h6⟩ := h3 a x ha hx hne hq
  exact ⟨k, b, hb, h5, by rw [e b x hb hx]; exact h6⟩
theorem rk_c {P : Nat} {f t c : Nat → Nat} {o o2 : Nat → Bool} {F : Nat → Nat → Nat} : ∀ {k : Nat}, (∀ j, j < k → o2 j = o j) → rk P f t c o2 F k = rk P f t c o F k
  | 0, _ => rfl
  | k + 1, h => by
    show (if o2 k then _ else _) = (if o k then _ else _)
    rw [rk_c (fun j hj => h j (by omega)), h k (by omega)]
theorem rr_c {P R : Nat} {f t c : Nat → Nat} {o o2 : Nat → Bool} (h : ∀ j, j < R → o2 j = o j) : ∀ r, rr P R f t c o2 r = rr P R f t c o r
  | 0 => rfl
  | r + 1 => by
    show rk P f t c o2 (rr P R f t c o2 r) R = rk P f t c o (rr P R f t c o r) R
    rw [rr_c h r, rk_c h]
theorem hc_of {g : PH} (hH : iv_H g) : (∀ k, k < hv_R g → hv_f g k < hv_P g ∧ hv_t g k < hv_P g) ∧ ∀ k, k < hv_R g → 1000 ≤ hv_c g k ∧ hv_c g k ≤ 9009 := by
  obtain ⟨⟨_, _, _, _, h⟩, _⟩ := hr_of hH
  refine ⟨fun k hk => ⟨(h k hk).2.2.2.2.1, (h k hk).2.2.2.2.2.1⟩, fun k hk => ?_⟩
  obtain ⟨_, _, _, _, _, _, h1, h2, h3⟩ := h k hk
  unfold hv_c
  omega
/-- what both reckon, held against each other -/
theorem iv_X_of {g : PH} {F1 F2 : Nat → Int32} (hH : iv_H g) (e16 : g.1 16 = mt F1 (fw (hv_P g) (rn (hv_f g) (hv_t g) (hv_c g) (fun k => g.1 15 k == 0) (hv_R g)) (hv_P g))) (e53 : g.1 53 = mt F2 (rr (hv_P g) (hv_R g) (hv_f g) (hv_t g) (hv_c g) (fun k => g.1 48 k == 0) (hv_P g - 1))) : iv_X g := by
  obtain ⟨hf, hc⟩ := hc_of hH
  have hP := hH.1.2.1
  obtain ⟨d1, d2, d3⟩ := fw_ivd (o := fun k => g.1 15 k == 0) hP hf hc
  have e48 : ∀ j, j < hv_R g → (g.1 48 j == 0) = (g.1 15 j == 0) := fun j hj => by rw [(hH.2.2.2 j hj).2.2.2.2.2.2]
  have eD : ∀ a b, a < hv_P g → b < hv_P g → hv_D g a b = fw (hv_P g) (rn (hv_f g) (hv_t g) (hv_c g) (fun k => g.1 15 k == 0) (hv_R g)) (hv_P g) a b := by
    intro a b ha hb
    have := d2 a b
    unfold hv_D
    rw [e16, mt_at2 (by omega) (by omega)]
    exact nI_clamp (by omega)
  refine ⟨fun a b ha hb => ?_, ?_⟩
  · rw [eD a b ha hb, e53, mt_at2 (by omega) (by omega), rr_c e48, rr_same hP hf hc]
    refine ⟨by rw [e16, mt_at2 (by omega) (by omega)], d2 a b, ?_⟩
    by_cases hq : fw (hv_P g) (rn (hv_f g) (hv_t g) (hv_c g) (fun k => g.1 15 k == 0) (hv_R g)) (hv_P g) a b = 1000000
    · rw [if_pos hq, if_pos hq]
    · rw [if_neg hq, if_neg hq]
  · rw [op_hv] at d1
    exact iv_d_c d1 eD
/-- two matrices that a house asks for are the same -/
theorem iv_d_u {P : Nat} {op : Nat → Nat → Nat → Prop} {c : Nat → Nat} {D D2 : Nat → Nat → Nat} (hc : ∀ k a b, op k a b → 1000 ≤ c k) (h : iv_d P op c D) (h2 : iv_d P op c D2) : ∀ a b, a < P → b < P → D2 a b ≤ D a b := by
  have key : ∀ d a b, D a b = d → a < P → b < P → D2 a b ≤ d := by
    intro d
    induction d using Nat.strongRecOn with
    | _ d ih =>
      intro a b hd ha hb
      by_cases hq : D a b < 1000000
      · by_cases hab : a = b
        · subst hab
          rw [h2.1 a ha]
          omega
        · obtain ⟨k, x, hx, h3, h4⟩ := h.2.2.1 a b ha hb hab hq
          have := hc k a x h3
          have e1 := ih (D x b) (by omega) x b rfl hx hb
          have e2 := h2.2.1 k a x b ha hx hb h3
          omega
      · rcases h2.2.2.2 a b ha hb with q | q <;> omega
  exact fun a b ha hb => key (D a b) a b rfl ha hb
/-- the reference lays anew what it had -/
theorem iv_X_re {h g : PH} {F2 : Nat → Int32} (hX : iv_X h) (hH : iv_H g) (eP : hv_P g = hv_P h) (eo : hv_o g = hv_o h) (ec : hv_c g = hv_c h) (e16 : g.1 16 = h.1 16) (e53 : g.1 53 = mt F2 (rr (hv_P g) (hv_R g) (hv_f g) (hv_t g) (hv_c g) (fun k => g.1 48 k == 0) (hv_P g - 1))) : iv_X g := by
  obtain ⟨hf, hc⟩ := hc_of hH
  have hP := hH.1.2.1
  obtain ⟨d1, d2, d3⟩ := fw_ivd (o := fun k => g.1 15 k == 0) hP hf hc
  have e48 : ∀ j, j < hv_R g → (g.1 48 j == 0) = (g.1 15 j == 0) := fun j hj => by rw [(hH.2.2.2 j hj).2.2.2.2.2.2]
  have eDh : hv_D g = hv_D h := by funext a b; unfold hv_D; rw [e16]
  have dg : iv_d (hv_P g) (hv_o g) (hv_c g) (hv_D g) := by rw [eP, eo, ec, eDh]; exact hX.2
  rw [op_hv] at d1
  have hc2 : ∀ k a b, hv_o g k a b → 1000 ≤ hv_c g k := fun k a b h => (hc k h.1).1
  have eD : ∀ a b, a < hv_P g → b < hv_P g → hv_D g a b = fw (hv_P g) (rn (hv_f g) (hv_t g) (hv_c g) (fun k => g.1 15 k == 0) (hv_R g)) (hv_P g) a b := by
    intro a b ha hb
    have l1 := iv_d_u hc2 dg d1 a b ha hb
    have l2 := iv_d_u hc2 d1 dg a b ha hb
    omega
  refine ⟨fun a b ha hb => ?_, dg⟩
  have hx := hX.1 a b (by omega) (by omega)
  rw [e53, mt_at2 (by omega) (by omega), rr_c e48, rr_same hP hf hc, ← eD a b ha hb, e16, eDh]
  refine ⟨hx.1, hx.2.1, ?_⟩
  by_cases hq : hv_D h a b = 1000000
  · rw [if_pos hq, if_pos hq]
  · rw [if_neg hq, if_neg hq]
theorem inv_shut {n : Nat} {h g : PH} {k : Nat} {y : Int32} {X16 X53 : Nat → Int32} (hi : Inv n h) (hy : y = 0 ∨ y = 1) (eg : g = ph_r (ph_i (ph_r (ph_i h 15 k y) 16 X16) 48 k y) 53 X53) (hX : iv_H g → iv_X g) : Inv (n + 1) g := by
  obtain ⟨hS, hF, hH, _, hP, hW, hR, hC⟩ := hi
  have E : ∀ a, a ≠ 15 → a ≠ 16 → a ≠ 48 → a ≠ 53 → g.1 a = h.1 a := by
    intro a a1 a2 a3 a4
    rw [eg, pr_rn a4, pr_ne a3, pr_rn a2, pr_ne a1]
  have e15 : ∀ j, g.1 15 j = if j = k then y else h.1 15 j := by
    intro j
    rw [eg, pr_rn (by decide), pr_ne (by decide), pr_rn (by decide), pr_eq]
  have e48 : ∀ j, g.1 48 j = if j = k then y else h.1 48 j := by
    intro j
    rw [eg, pr_rn (by decide), pr_eq, pr_rn (by decide), pr_ne (by decide)]
  have eb : ∀ a, 71 ≤ a → g.1 a = h.1 a := fun a ha => E a (by omega) (by omega) (by omega) (by omega)
  have e2 : g.2.2 = h.2.2 := by rw [eg]; rfl
  have hH2 : iv_H g := by
    have E0 := E 10 (by decide) (by decide) (by decide) (by decide)
    have E1 := E 11 (by decide) (by decide) (by decide) (by decide)
    have E2 := E 12 (by decide) (by decide) (by decide) (by decide)
    have E3 := E 13 (by decide) (by decide) (by decide) (by decide)
    have E4 := E 14 (by decide) (by decide) (by decide) (by decide)
    have E5 := E 43 (by decide) (by decide) (by decide) (by decide)
    have E6 := E 44 (by decide) (by decide) (by decide) (by decide)
    have E7 := E 45 (by decide) (by decide) (by decide) (by decide)
    have E8 := E 46 (by decide) (by decide) (by decide) (by decide)
    have E9 := E 47 (by decide) (by decide) (by decide) (by decide)
    unfold iv_H iv_k hv_P hv_B hv_R hv_f hv_t hv_y hv_d at hH ⊢
    rw [E0, E1, E2, E3, E4, E5, E6, E7, E8, E9]
    refine ⟨hH.1, hH.2.1, hH.2.2.1, fun j hj => ?_⟩
    obtain ⟨k1, k2, k3, k4, k5, k6, k7⟩ := hH.2.2.2 j hj
    refine ⟨k1, k2, k3, k4, k5, ?_, ?_⟩
    · rw [e15]
      by_cases hjk : j = k
      · rw [if_pos hjk]; exact hy
      · rw [if_neg hjk]; exact k6
    · rw [e15, e48]
      by_cases hjk : j = k
      · rw [if_pos hjk, if_pos hjk]
      · rw [if_neg hjk, if_neg hjk]; exact k7
  refine ⟨?_, ⟨?_, ?_⟩, hH2, hX hH2, ?_, ?_, ?_, fr_C hC eb e2⟩
  · apply fr_S hS <;> (apply E <;> decide)
  · rw [E 0 (by decide) (by decide) (by decide) (by decide), E 43 (by decide) (by decide) (by decide) (by decide)]; exact hF.1
  · rw [E 42 (by decide) (by decide) (by decide) (by decide), E 43 (by decide) (by decide) (by decide) (by decide)]; exact hF.2
  · apply fr_P hP <;> first | (apply E <;> decide) | (apply congrFun; apply E <;> decide)
  · apply fr_W hW <;> first | (apply E <;> decide) | (apply congrFun; apply E <;> decide) | exact eb | exact e2
  · apply fr_R hR <;> first | (apply E <;> decide) | (apply congrFun; apply E <;> decide)
theorem upd_same {f : Nat → Int32} {k : Nat} {v : Int32} (h : f k = v) : upd f k v = f := by
  funext i
  rw [up_at]
  by_cases hi : i = k
  · rw [if_pos hi, hi, h]
  · rw [if_neg hi]
theorem ph_same {h : PH} {a k : Nat} {v : Int32} (e : h.1 a k = v) : ph_i h a k v = h := by
  rw [ph_ir, upd_same e, ph_rid]
/-- the runs of a heap in which one run was shut or opened -/
theorem hr_c_c {g g2 : PH} {P R : Nat} {f t y d : Nat → Nat} (h : hr_c g P R f t y d) (e10 : g2.1 10 = g.1 10) (e11 : g2.1 11 = g.1 11) (e12 : g2.1 12 = g.1 12) (e13 : g2.1 13 = g.1 13) (e14 : g2.1 14 = g.1 14) : hr_c g2 P R f t y d := by
  unfold hr_c
  rw [e10, e11, e12, e13, e14]
  exact h
theorem hr_m_c {g g2 : PH} {P R : Nat} {f t y d : Nat → Nat} (h : hr_m g P R f t y d) (e1 : g2.1 43 1 = g.1 43 1) (e3 : g2.1 43 3 = g.1 43 3) (e44 : g2.1 44 = g.1 44) (e45 : g2.1 45 = g.1 45) (e46 : g2.1 46 = g.1 46) (e47 : g2.1 47 = g.1 47) : hr_m g2 P R f t y d := by
  unfold hr_m
  rw [e1, e3, e44, e45, e46, e47]
  exact h
/-- class: a run is shut or opened -/
theorem s_close {h : PH} {k : Nat} {y : Int32} (hH : iv_H h) (hk : k < hv_R h) (hy : y = 0 ∨ y = 1) : f_X3_close (nI k) y h = some ((), ph_r (ph_i h 15 k y) 16 (mt (h.1 16) (fw (hv_P h) (rn (hv_f h) (hv_t h) (hv_c h) (fun j => (ph_i h 15 k y).1 15 j == 0) (hv_R h)) (hv_P h)))) := by
  obtain ⟨hc, hm⟩ := hr_of hH
  have k14 : k < 14 := by have := hH.2.2.1.2.1; omega
  have hck : (nI k).toNatClampNeg = k := nI_clamp (by omega)
  have hg : gb_i (β := Unit × PH) y = id := by
    funext K
    unfold gb_i
    rw [if_pos hy]
    rfl
  unfold f_X3_close
  rw [pu_gn k14 (by decide), hg, hck]
  show lt_b _ _ = _
  rw [pu_lt, s_reckon (hr_c_c hc (pr_ne (by decide)) (pr_ne (by decide)) (pr_ne (by decide)) (pr_ne (by decide)) (pr_ne (by decide))), pu_b2, pr_ne (by decide)]
theorem o_shut {n : Nat} {h : PH} (hi : Inv n h) (x y : Int32) (hy : y = 0 ∨ y = 1) : ∃ r h1 h2, f_X11_shut x y h = some (r, h1) ∧ f_X12_shut x y h1 = some (r, h2) ∧ Inv (n + 1) h2 := by
  have hI := hi
  obtain ⟨hS, hF, hH, hX, hP, hW, hR, hC⟩ := hi
  have hg : gb_i (β := Int32 × PH) y = id := by
    funext K
    unfold gb_i
    rw [if_pos hy]
    rfl
  rcases rg_rn hH x with ⟨k, hk, hk2, rfl, w1, w2⟩ | ⟨w1, w2⟩
  · have hck : (nI k).toNatClampNeg = k := nI_clamp (by omega)
    obtain ⟨hc, hm⟩ := hr_of hH
    have e48 := (hH.2.2.2 k hk).2.2.2.2.2.2
    by_cases hq : h.1 15 k = y
    · have lay := m_layFar (g := ph_i h 48 k y) (hr_m_c hm (by rw [pr_ne (by decide)]) (by rw [pr_ne (by decide)]) (pr_ne (by decide)) (pr_ne (by decide)) (pr_ne (by decide)) (pr_ne (by decide)))
      refine ⟨0, h, ph_r (ph_i h 48 k y) 53 (mt ((ph_i h 48 k y).1 53) (rr (hv_P h) (hv_R h) (hv_f h) (hv_t h) (fun k => 1000 * hv_y h k + hv_d h k) (fun j => (ph_i h 48 k y).1 48 j == 0) (hv_P h - 1))), ?_, ?_, ?_⟩
      · unfold f_X11_shut
        rw [w1 h rfl, pu_b1, if_neg (show ¬ (1 : Int32) = 0 by decide), pu_gn hk2 (by decide), hck, if_pos hq]
      · unfold f_X12_shut
        rw [w2 h rfl, pu_b1, if_pos (show (0 : Int32) = 0 from rfl), pu_gn hk2 (by decide), hck, if_pos (by rw [e48]; exact hq), pu_gn hk2 (by decide), hg]
        show lt_b _ _ = _
        rw [pu_lt, lay, pu_b2]
      · refine inv_shut (h := h) (k := k) (y := y) (X16 := h.1 16) (X53 := mt ((ph_i h 48 k y).1 53) (rr (hv_P h) (hv_R h) (hv_f h) (hv_t h) (fun k => 1000 * hv_y h k + hv_d h k) (fun j => (ph_i h 48 k y).1 48 j == 0) (hv_P h - 1))) hI hy ?_ (fun hH2 => ?_)
        · rw [ph_same hq, ph_rid]
        · rw [ph_same (by rw [e48]; exact hq)] at hH2 ⊢
          refine iv_X_re (h := h) (F2 := h.1 53) hX hH2 ?_ ?_ ?_ (pr_rn (by decide)) ?_
          · unfold hv_P; rw [pr_rn (by decide)]
          · funext j a b
            unfold hv_o hv_R hv_f hv_t
            rw [pr_rn (by decide), pr_rn (by decide), pr_rn (by decide), pr_rn (by decide)]
          · funext j
            unfold hv_c hv_y hv_d
            rw [pr_rn (by decide), pr_rn (by decide)]
          · rw [pr_re]
            rfl
    · have clo := s_close hH hk hy
      refine ⟨1, ph_r (ph_i h 15 k y) 16 (mt (h.1 16) (fw (hv_P h) (rn (hv_f h) (hv_t h) (hv_c h) (fun j => (ph_i h 15 k y).1 15 j == 0) (hv_R h)) (hv_P h))), ph_r (ph_i (ph_r (ph_i h 15 k y) 16 (mt (h.1 16) (fw (hv_P h) (rn (hv_f h) (hv_t h) (hv_c h) (fun j => (ph_i h 15 k y).1 15 j == 0) (hv_R h)) (hv_P h)))) 48 k y) 53 (mt (h.1 53) (rr (hv_P h) (hv_R h) (hv_f h) (hv_t h) (hv_c h) (fun j => (ph_i h 48 k y).1 48 j == 0) (hv_P h - 1))), ?_⟩
      · refine ⟨?_, ?_, ?_⟩
        · unfold f_X11_shut
          rw [w1 h rfl, pu_b1, if_neg (show ¬ (1 : Int32) = 0 by decide), pu_gn hk2 (by decide), hck, if_neg hq, clo, pu_b2]
        · generalize mt (h.1 16) _ = X
          have lay := m_layFar (g := ph_i (ph_r (ph_i h 15 k y) 16 X) 48 k y) (hr_m_c hm (by rw [pr_ne (by decide), pr_rn (by decide), pr_ne (by decide)]) (by rw [pr_ne (by decide), pr_rn (by decide), pr_ne (by decide)]) (by rw [pr_ne (by decide), pr_rn (by decide), pr_ne (by decide)]) (by rw [pr_ne (by decide), pr_rn (by decide), pr_ne (by decide)]) (by rw [pr_ne (by decide), pr_rn (by decide), pr_ne (by decide)]) (by rw [pr_ne (by decide), pr_rn (by decide), pr_ne (by decide)]))
          have w3 := w2 (ph_r (ph_i h 15 k y) 16 X) (by rw [pr_rn (by decide), pr_ne (by decide)])
          have r48 : (ph_r (ph_i h 15 k y) 16 X).1 48 = h.1 48 := by rw [pr_rn (by decide), pr_ne (by decide)]
          have r53 : (ph_i (ph_r (ph_i h 15 k y) 16 X) 48 k y).1 53 = h.1 53 := by rw [pr_ne (by decide), pr_rn (by decide), pr_ne (by decide)]
          have o48 : (fun j => (ph_i (ph_r (ph_i h 15 k y) 16 X) 48 k y).1 48 j == 0) = fun j => (ph_i h 48 k y).1 48 j == 0 := by
            funext j
            rw [pr_eq, pr_eq, r48]
          rw [r53, o48] at lay
          unfold f_X12_shut
          rw [w3, pu_b1, if_pos (show (0 : Int32) = 0 from rfl), pu_gn hk2 (by decide), hck, r48, if_neg (by rw [e48]; exact hq), pu_gn hk2 (by decide), hg]
          show lt_b _ _ = _
          rw [pu_lt, lay, pu_b2]
        · refine inv_shut (h := h) (k := k) (y := y) hI hy rfl (fun hH2 => ?_)
          generalize eg : ph_r (ph_i (ph_r (ph_i h 15 k y) 16 (mt (h.1 16) (fw (hv_P h) (rn (hv_f h) (hv_t h) (hv_c h) (fun j => (ph_i h 15 k y).1 15 j == 0) (hv_R h)) (hv_P h)))) 48 k y) 53 (mt (h.1 53) (rr (hv_P h) (hv_R h) (hv_f h) (hv_t h) (hv_c h) (fun j => (ph_i h 48 k y).1 48 j == 0) (hv_P h - 1))) = g at hH2 ⊢
          have E : ∀ a, a ≠ 15 → a ≠ 16 → a ≠ 48 → a ≠ 53 → g.1 a = h.1 a := by
            intro a a1 a2 a3 a4
            rw [← eg, pr_rn a4, pr_ne a3, pr_rn a2, pr_ne a1]
          have E0 := E 10 (by decide) (by decide) (by decide) (by decide)
          have E1 := E 11 (by decide) (by decide) (by decide) (by decide)
          have E2 := E 12 (by decide) (by decide) (by decide) (by decide)
          have E3 := E 13 (by decide) (by decide) (by decide) (by decide)
          have E4 := E 14 (by decide) (by decide) (by decide) (by decide)
          have p1 : hv_P g = hv_P h := by unfold hv_P; rw [E0]
          have p2 : hv_R g = hv_R h := by unfold hv_R; rw [E0]
          have p3 : hv_f g = hv_f h := by funext j; unfold hv_f; rw [E1]
          have p4 : hv_t g = hv_t h := by funext j; unfold hv_t; rw [E2]
          have p5 : hv_c g = hv_c h := by funext j; unfold hv_c hv_y hv_d; rw [E3, E4]
          have q15 : (fun j => g.1 15 j == 0) = fun j => (ph_i h 15 k y).1 15 j == 0 := by
            funext j
            rw [← eg, pr_rn (by decide), pr_ne (by decide), pr_rn (by decide)]
          have q48 : (fun j => g.1 48 j == 0) = fun j => (ph_i h 48 k y).1 48 j == 0 := by
            funext j
            rw [← eg, pr_rn (by decide), pr_eq, pr_eq, pr_rn (by decide), pr_ne (by decide)]
          refine iv_X_of (F1 := h.1 16) (F2 := h.1 53) hH2 ?_ ?_
          · rw [p1, p2, p3, p4, p5, q15, ← eg, pr_rn (by decide), pr_ne (by decide), pr_re]
          · rw [p1, p2, p3, p4, p5, q48, ← eg, pr_re]
  · refine ⟨-1, h, h, ?_, ?_, inv_up hI⟩
    · simp [f_X11_shut, w1 h rfl, pu_b1]
    · simp [f_X12_shut, w2 h rfl, pu_b1]
