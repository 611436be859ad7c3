/-- owners of points set one after another -/
def ow (f : Nat → Int32) (pt : Nat → Nat) (v : Int32) : Nat → Nat → Int32
  | 0 => f
  | i + 1 => upd (ow f pt v i) (pt i) v
theorem ow_out {f : Nat → Int32} {pt : Nat → Nat} {v : Int32} {p : Nat} : ∀ {i : Nat}, (∀ j, j < i → pt j ≠ p) → ow f pt v i p = f p
  | 0, _ => rfl
  | i + 1, h => by
    show upd (ow f pt v i) (pt i) v p = f p
    rw [up_at, if_neg (fun q => h i (by omega) q.symm)]
    exact ow_out (fun j hj => h j (by omega))
theorem ow_in {f : Nat → Int32} {pt : Nat → Nat} {v : Int32} : ∀ {i j : Nat}, j < i → ow f pt v i (pt j) = v
  | 0, j, h => by omega
  | i + 1, j, h => by
    show upd (ow f pt v i) (pt i) v (pt j) = v
    rw [up_at]
    by_cases hq : pt j = pt i
    · rw [if_pos hq]
    · rw [if_neg hq]
      have : j ≠ i := fun q => hq (by rw [q])
      exact ow_in (by omega)
theorem l_own {h : PH} {a m N : Nat} (v : Int32) (pt : Nat → Nat) (hpt : ∀ j, j < m → pt j < N ∧ h.1 a j = nI (pt j)) (h17 : h.1 17 0 = nI N) (hN : N ≤ 8) (ha : 71 ≤ a) (hm : m ≤ 6) : f_X6_own a m v h = some ((), ph_r h 21 (ow (h.1 21) pt v m)) := by
  unfold f_X6_own
  have e : lp_f (fun s => lb_X6_own_2 a m v s.1 s.2) fu_l (0, h) = some (nI m, ph_r h 21 (ow (h.1 21) pt v m)) := by
    have h0 : ((0 : Int32), h) = (fun i => (nI i, ph_r h 21 (ow (h.1 21) pt v i))) 0 := by
      show _ = (nI 0, ph_r h 21 (h.1 21))
      rw [ph_rid]
      rfl
    rw [h0]
    refine lp_cnt (fun i => (nI i, ph_r h 21 (ow (h.1 21) pt v i))) m _ (fun i hi => ?_) ?_ fu_l 0 (by omega) (by unfold fu_l; omega)
    · unfold lb_X6_own_2
      have h1 : ¬ m ≤ i := by omega
      have ha21 : a ≠ 21 := by omega
      have h2 := (hpt i hi).1
      have h3 : ¬ N ≤ pt i := by omega
      show (if nI m ≤ nI i then _ else _) = _
      unfold f_X6_isPoint
      simp (disch := omega) only [pu_lt, pu_b1, pu_b2, pu_gn, n_0, n_1, n_2, n_3, n_4, n_5, n_6, n_7, n_8, n_9, n_10, n_14, n_20, n_31, n_48, n_59, n_70, n_98, n_99, n_100, n_104, n_200, n_1000, n_1M, n_10M, nI_add, nI_sub, nI_mul, nI_div, nI_clamp, nI_leI, nI_ltI, nI_eq, nI_ng, nI_nl, nI_nlt2, nI_nlt3, and_self, and_true, true_and, and_false, false_and, or_true, true_or, or_false, false_or, if_true, if_false, ↓reduceIte, not_true_eq_false, not_false_eq_true, reduceCtorEq, h1, pr_rr, ha21, (hpt i hi).2, Nat.reduceEqDiff, h17, h3, Nat.not_lt_zero, Nat.succ_ne_zero, ph_ri]
      rfl
    · unfold lb_X6_own_2
      show (if nI m ≤ nI m then _ else _) = _
      simp (disch := omega) only [pu_lt, pu_b1, pu_b2, pu_gn, n_0, n_1, n_2, n_3, n_4, n_5, n_6, n_7, n_8, n_9, n_10, n_14, n_20, n_31, n_48, n_59, n_70, n_98, n_99, n_100, n_104, n_200, n_1000, n_1M, n_10M, nI_add, nI_sub, nI_mul, nI_div, nI_clamp, nI_leI, nI_ltI, nI_eq, nI_ng, nI_nl, nI_nlt2, nI_nlt3, and_self, and_true, true_and, and_false, false_and, or_true, true_or, or_false, false_or, if_true, if_false, ↓reduceIte, not_true_eq_false, not_false_eq_true, reduceCtorEq, Nat.le_refl]
  rw [e, pu_b1]
theorem wf_less {h g : PH} (hwf : wf_H l0_B h) (eb : ∀ a, 71 ≤ a → g.1 a = h.1 a) (e3 : g.2.2.2 = h.2.2.2) (ew : ∀ k x o, g.2.2.1 k x = some o → h.2.2.1 k x = some o) : wf_H l0_B g := by
  have h1 := wf_frame (h := h) (g := (g.1, g.2.1, h.2.2)) eb rfl hwf
  intro k y hy
  rw [e3] at hy ⊢
  have h2 := h1 k y hy
  exact ⟨fun a ha h3 x o ho => h2.1 a ha h3 x o (ew k x o ho), h2.2⟩
theorem o_away {n : Nat} {h : PH} (hi : Inv n h) (x : Int32) : ∃ r h1 h2, f_X11_away x h = some (r, h1) ∧ f_X12_away x h1 = some (r, h2) ∧ Inv (n + 1) h2 := by
  have hI := hi
  obtain ⟨hS, hF, hH, hX, hP, hW, hR, hC⟩ := hi
  rcases wy hW x with ⟨w1, w2⟩ | ⟨k, o, ci, a, m, rfl, hk, hk6, hw, w1, w2⟩
  · refine ⟨-1, h, h, ?_, ?_, inv_up hI⟩
    · simp [f_X11_away, w1 h rfl rfl, pu_b1, mo_b]
    · simp [f_X12_away, w2 h rfl rfl, pu_b1]
  · have hc : (nI k).toNatClampNeg = k := nI_clamp (by omega)
    have hw' := hw
    obtain ⟨q1, q2, q3, q4, q5, q6, q7, q8, q9, q10, q11, q12, q13, q14, q15⟩ := hw'
    obtain ⟨pt, hpt⟩ := w_pts hw
    have hown := l_own (h := h) (a := a) (m := m) (-9) pt (fun j hj => ⟨(hpt j hj).1, (hpt j hj).2.1⟩) hP.1.1 hP.1.2.1 q5 q12
    obtain ⟨h1, e1⟩ : ∃ h1, h1 = ph_w (ph_r h 21 (ow (h.1 21) pt (-9) m)) 22 k none := ⟨_, rfl⟩
    obtain ⟨h2, e2⟩ : ∃ h2, h2 = ph_i h1 57 k 0 := ⟨_, rfl⟩
    have E : ∀ b, b ≠ 21 → b ≠ 57 → h2.1 b = h.1 b := by
      intro b b1 b2
      subst e2; subst e1
      rw [pr_row, if_neg b2, pr_w1, pr_rr, if_neg b1]
    have g21 : h2.1 21 = ow (h.1 21) pt (-9) m := by
      subst e2; subst e1
      rw [pr_row, if_neg (by decide), pr_w1, pr_rr, if_pos rfl]
    have g57 : ∀ j, h2.1 57 j = if j = k then 0 else h.1 57 j := by
      intro j
      subst e2; subst e1
      rw [pr_row, if_pos rfl, up_at, pr_w1, pr_rr]
      rfl
    have g22 : ∀ j, h2.2.2.1 22 j = if j = k then none else h.2.2.1 22 j := by
      intro j
      subst e2; subst e1
      show up_R h.2.2.1 22 (va_up (h.2.2.1 22) k none) 22 j = _
      rw [up_R_s]
      rfl
    have g22n : ∀ b x o, h2.2.2.1 b x = some o → h.2.2.1 b x = some o := by
      intro b x o ho
      by_cases hb : b = 22
      · subst hb
        rw [g22] at ho
        by_cases hx : x = k
        · rw [if_pos hx] at ho; cases ho
        · rw [if_neg hx] at ho; exact ho
      · subst e2; subst e1
        have : (ph_i (ph_w (ph_r h 21 (ow (h.1 21) pt (-9) m)) 22 k none) 57 k 0).2.2.1 b = h.2.2.1 b := by
          show up_R h.2.2.1 22 _ b = _
          unfold up_R
          rw [if_neg hb]
        rw [this] at ho
        exact ho
    have e3 : h2.2.2.2 = h.2.2.2 := by subst e2; subst e1; rfl
    have eb : ∀ b, 71 ≤ b → h2.1 b = h.1 b := fun b hb => E b (by omega) (by omega)
    have hout : ∀ p, h.1 21 p ≠ nI k → h2.1 21 p = h.1 21 p := by
      intro p hp
      rw [g21]
      exact ow_out (fun j hj hq => hp (by rw [← hq]; exact (hpt j hj).2.2.2))
    refine ⟨nI m, h1, h2, ?_, ?_, ?_⟩
    · have ho21 : o ≠ 21 := by omega
      have eo : h1.1 o = h.1 o := by subst e1; rw [pr_w1, pr_rr, if_neg ho21]
      simp only [f_X11_away, w1 h rfl rfl, pu_b1, mo_b, q3, pu_gz q6, hown, pu_b2, gl_y, pr_r2, if_true, pu_gn hk6, hc, pu_lt]
      rw [pu_gn hk6 (by decide), ← e1, eo, pu_gz q6]
      rfl
    · have w2' := w2 h1 (by subst e1; rw [pr_w1, pr_rr, if_neg (by decide)]) (by subst e1; rw [pr_w1, pr_rr, if_neg (by decide)])
      have e60 : (ph_i h1 57 k 0).1 60 k = nI m := by rw [← e2, E 60 (by decide) (by decide)]; exact q13
      simp [f_X12_away, w2', pu_b1, pu_lt, pu_gn hk6, hc, e60, e2]
    · refine ⟨?_, ⟨?_, ?_⟩, ?_, ?_, ?_, ?_, ?_, ?_⟩
      · apply fr_S hS <;> (apply E <;> decide)
      · rw [E 0 (by decide) (by decide), E 43 (by decide) (by decide)]; exact hF.1
      · rw [E 42 (by decide) (by decide), E 43 (by decide) (by decide)]; exact hF.2
      · apply fr_H hH <;> first | (apply E <;> decide) | (apply congrFun; apply E <;> decide)
      · apply fr_X hX <;> first | (apply E <;> decide) | (apply congrFun; apply E <;> decide)
      · apply fr_P hP <;> first | (apply E <;> decide) | (apply congrFun; apply E <;> decide)
      · obtain ⟨a1, a2, a3, a4⟩ := hW
        have gW : hv_W h2 = hv_W h := by unfold hv_W; rw [E 0 (by decide) (by decide)]
        have gN : hv_N h2 = hv_N h := by unfold hv_N; rw [E 17 (by decide) (by decide)]
        have ew : ∀ x o ci a m, x < hv_W h → x ≠ k → iv_w h x o ci a m → iv_w h2 x o ci a m := by
          intro x o ci a m hxW hxk hw
          obtain ⟨q1, q2, q3, q4, q5, q6, q7, q8, q9, q10, q11, q12, q13, q14, q15⟩ := hw
          unfold iv_w
          rw [g22, g57, if_neg hxk, if_neg hxk, show ch_at h2 o = ch_at h o from by unfold ch_at; rw [e3], eb o q4, eb a q5, gN, E 58 (by decide) (by decide), E 59 (by decide) (by decide), E 60 (by decide) (by decide), E 61 (by decide) (by decide)]
          refine ⟨q1, q2, q3, q4, q5, q6, q7, q8, q9, q10, q11, q12, q13, fun j hj => ?_, q15⟩
          obtain ⟨p, p1, p2, p3, p4⟩ := q14 j hj
          refine ⟨p, p1, p2, p3, ?_⟩
          rw [hout p (by rw [p4]; exact fun q => hxk (nI_inj q (by have := a1.2.1; omega) (by omega)))]
          exact p4
        refine ⟨?_, fun x hx => ?_, fun x hx => ?_, fun p hp => ?_⟩
        · rw [gW, E 0 (by decide) (by decide), E 43 (by decide) (by decide)]; exact a1
        · rw [gW] at hx
          rw [g22, if_neg (by omega)]
          exact a2 x hx
        · rw [gW] at hx
          rw [g22, g57]
          by_cases hxk : x = k
          · left
            rw [if_pos hxk, if_pos hxk]
            exact ⟨rfl, rfl⟩
          · rw [if_neg hxk, if_neg hxk]
            rcases a3 x hx with q | ⟨o, ci, a, m, q⟩
            · exact Or.inl q
            · exact Or.inr ⟨o, ci, a, m, ew x o ci a m hx hxk q⟩
        · rw [gN] at hp
          rw [gW]
          by_cases hpk : h.1 21 p = nI k
          · left
            rcases a4 p hp with q | ⟨x, o2, ci2, a2, m2, j, r1, r2, r3, r4⟩
            · exfalso
              rw [hpk] at q
              have := nI_ng (show k < 2 ^ 31 by omega) (show 0 < 9 by decide) (show 9 < 2 ^ 31 by decide)
              rw [← this]
              exact q
            · obtain ⟨pt2, hpt2⟩ := w_pts r2
              have s1 := hpt2 j r3
              have s2 : pt2 j = p := nI_inj (by rw [← s1.2.1]; exact r4) (by have := hP.1.2.1; omega) (by have := hP.1.2.1; omega)
              have s3 : x = k := by
                have := s1.2.2.2
                rw [s2, hpk] at this
                exact (nI_inj this (by omega) (by have := a1.2.1; omega)).symm
              subst s3
              have s4 : o2 = o := by
                have := r2.1
                rw [q1] at this
                exact (Option.some.inj this).symm
              subst s4
              have s5 := r2.2.2.1
              rw [q3] at s5
              injection s5 with s5
              injection s5 with s5 s6
              injection s6 with s6 s7
              have s8 : pt j = p := by
                have t1 := (hpt j (by omega)).2.1
                rw [s6, r4] at t1
                exact (nI_inj t1 (by have := hP.1.2.1; omega) (by have := (hpt j (by omega)).1; have := hP.1.2.1; omega)).symm
              rw [g21, ← s8]
              exact ow_in (by omega)
          · rw [hout p hpk]
            rcases a4 p hp with q | ⟨x, o2, ci2, a2, m2, j, r1, r2, r3, r4⟩
            · exact Or.inl q
            · have hxk : x ≠ k := by
                intro hxk
                subst hxk
                obtain ⟨pt2, hpt2⟩ := w_pts r2
                have s1 := hpt2 j r3
                have s2 : pt2 j = p := nI_inj (by rw [← s1.2.1]; exact r4) (by have := hP.1.2.1; omega) (by have := hP.1.2.1; omega)
                have := s1.2.2.2
                rw [s2] at this
                exact hpk this
              refine Or.inr ⟨x, o2, ci2, a2, m2, j, r1, ew x o2 ci2 a2 m2 r1 hxk r2, r3, ?_⟩
              rw [eb a2 r2.2.2.2.2.1]
              exact r4
      · apply fr_R hR <;> first | (apply E <;> decide) | (apply congrFun; apply E <;> decide)
      · exact ⟨by rw [e3]; have := hC.1; omega, wf_less hC.2 eb e3 g22n⟩
