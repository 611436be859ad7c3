theorem head_both {g gm : PH} {sp n : Nat} (hsp : sp + n ≤ 400) (hT : ∀ i, gm.1 69 (sp + i) = g.1 4 (sp + i)) : (∃ q, q ≤ n ∧ (∀ h, CF g sp n h 0 → ∃ h2, f_X10_isHeadRead h = some (0, h2) ∧ CF g sp n h2 q) ∧ ∀ h, MF gm sp n h 0 → ∀ K : Int32 → PH → Option (Int32 × PH), ∃ h2, MF gm sp n h2 q ∧ (bd_2 (f_X12_takes 104 (nI sp) (nI n) h) fun r_3 h_4 => if r_3 = 0 then some (0, h_4) else bd_2 (f_X12_readsFigure (nI sp) (nI n) 2 8 (-9) h_4) fun r_5 h_6 => if r_5 = 0 then some (0, h_6) else lt_b (ph_i h_6 43 11 (h_6.1 43 10)) fun h_7 => bd_2 (f_X12_takes 59 (nI sp) (nI n) h_7) fun r_8 h_9 => if r_8 = 0 then some (0, h_9) else bd_2 (f_X12_takes 98 (nI sp) (nI n) h_9) fun r_10 h_11 => if r_10 = 0 then some (0, h_11) else bd_2 (f_X12_readsFigure (nI sp) (nI n) 0 ((h_11.1 43 11) - 1) (-9) h_11) fun r_12 h_13 => if r_12 = 0 then some (0, h_13) else K r_12 h_13) = some (0, h2)) ∨ ∃ P B, 2 ≤ P ∧ P ≤ 8 ∧ B < P ∧ (∀ h, CF g sp n h 0 → ∃ h2, f_X10_isHeadRead h = some (1, h2) ∧ CF g sp n h2 5 ∧ h2.1 5 4 = nI P ∧ h2.1 5 5 = nI B) ∧ ∀ h, MF gm sp n h 0 → ∀ K : Int32 → PH → Option (Int32 × PH), ∃ h2, MF gm sp n h2 5 ∧ h2.1 43 11 = nI P ∧ h2.1 43 10 = nI B ∧ h2.1 43 13 = h.1 43 13 ∧ (bd_2 (f_X12_takes 104 (nI sp) (nI n) h) fun r_3 h_4 => if r_3 = 0 then some (0, h_4) else bd_2 (f_X12_readsFigure (nI sp) (nI n) 2 8 (-9) h_4) fun r_5 h_6 => if r_5 = 0 then some (0, h_6) else lt_b (ph_i h_6 43 11 (h_6.1 43 10)) fun h_7 => bd_2 (f_X12_takes 59 (nI sp) (nI n) h_7) fun r_8 h_9 => if r_8 = 0 then some (0, h_9) else bd_2 (f_X12_takes 98 (nI sp) (nI n) h_9) fun r_10 h_11 => if r_10 = 0 then some (0, h_11) else bd_2 (f_X12_readsFigure (nI sp) (nI n) 0 ((h_11.1 43 11) - 1) (-9) h_11) fun r_12 h_13 => if r_12 = 0 then some (0, h_13) else K r_12 h_13) = K 1 h2 := by
  have eT : (fun i => gm.1 69 (sp + i)) = fun i => g.1 4 (sp + i) := funext hT
  have z1 : ¬ (1 : Int32) = 0 := by decide
  have z0 : (0 : Int32) = 0 := rfl
  by_cases h1 : 0 < n ∧ g.1 4 (sp + 0) = 104
  rotate_left
  · refine Or.inl ⟨0, by omega, fun h hc => ⟨h, ?_, hc⟩, fun h hc K => ⟨h, hc, ?_⟩⟩
    · unfold f_X10_isHeadRead
      rw [c_s0 hsp hc h1, pu_b2, if_pos z0]
    · rw [m_t0 hsp hc (by rw [hT]; exact h1), pu_b2, if_pos z0]
  have h1m : 0 < n ∧ gm.1 69 (sp + 0) = 104 := by rw [hT]; exact h1
  by_cases h2 : ∃ P, dgt (fun i => g.1 4 (sp + i)) n 1 2 8 P
  rotate_left
  · refine Or.inl ⟨1, h1.1, fun h hc => ⟨ph_i (ph_i h 5 10 (nI (sp + 1))) 5 4 (-1), ?_, cf_4 (cf_5 hc h1.1) (by decide)⟩, fun h hc K => ?_⟩
    · have hd : f_X10_digit 2 8 (ph_i h 5 10 (nI (sp + 1))) = some (-1, ph_i h 5 10 (nI (sp + 1))) := c_d0 (lo := 2) (hi := 8) hsp (cf_5 hc h1.1) (by omega) (by omega) h2
      unfold f_X10_isHeadRead
      rw [c_s1q (q := 1) hsp hc rfl h1, pu_b2, if_neg z1, hd, pu_b2, pu_lt, pr_eq, if_pos rfl, if_pos rfl]
    · obtain ⟨v, hv⟩ := m_f0 (lo := 2) (hi := 8) (but := -9) hsp (mf_9 hc h1.1) (by omega) (by omega) (fun ⟨d, hd, _⟩ => h2 ⟨d, by rw [eT] at hd; exact hd⟩)
      have hv' : f_X12_readsFigure (nI sp) (nI n) 2 8 (-9) (ph_i h 43 9 (nI 1)) = some (0, ph_i (ph_i h 43 9 (nI 1)) 43 10 v) := hv
      refine ⟨ph_i (ph_i h 43 9 (nI 1)) 43 10 v, mf_j (mf_9 hc h1.1) (by omega), ?_⟩
      rw [m_t1q (q := 1) hsp hc rfl h1m, pu_b2, if_neg z1, hv', pu_b2, if_pos z0]
  obtain ⟨P, hP⟩ := h2
  have hP2 : 2 ≤ P := hP.2.2.1
  have hP8 : P ≤ 8 := hP.2.2.2
  have nP : ¬ nI P = -1 := nI_n1 (by omega)
  have e4 : nI P - 1 = nI (P - 1) := by
    show nI P - nI 1 = _
    rw [nI_sub (by omega)]
  have l2 : 2 ≤ n := hP.1
  -- class and reference behind the figure of places
  have cl : ∀ h, CF g sp n h 0 → ∃ h2, CF g sp n h2 2 ∧ h2.1 5 4 = nI P ∧ f_X10_isHeadRead h = bd_2 (f_X10_isSign 59 h2) fun r_6 h_7 => if r_6 = 0 then some (0, h_7) else bd_2 (f_X10_isSign 98 h_7) fun r_8 h_9 => if r_8 = 0 then some (0, h_9) else bd_2 (f_X10_digit 0 ((h_9.1 5 4) - 1) h_9) fun r_10 h_11 => lt_b (ph_i h_11 5 5 r_10) fun h_12 => if (h_12.1 5 5) = (-1) then some (0, h_12) else some (1, h_12) := by
    intro h hc
    have hd : f_X10_digit 2 8 (ph_i h 5 10 (nI (sp + 1))) = some (nI P, ph_i (ph_i h 5 10 (nI (sp + 1))) 5 10 (nI (sp + 2))) := c_d1 (lo := 2) (hi := 8) hsp (cf_5 hc h1.1) (by omega) hP
    refine ⟨ph_i (ph_i (ph_i h 5 10 (nI (sp + 1))) 5 10 (nI (sp + 2))) 5 4 (nI P), cf_4 (cf_5 (cf_5 hc h1.1) l2) (by decide), by rw [pr_eq, if_pos rfl], ?_⟩
    unfold f_X10_isHeadRead
    rw [c_s1q (q := 1) hsp hc rfl h1, pu_b2, if_neg z1, hd, pu_b2, pu_lt, pr_eq, if_pos rfl, if_neg nP]
  have md : ∀ h, MF gm sp n h 0 → ∃ h2, MF gm sp n h2 2 ∧ h2.1 43 11 = nI P ∧ h2.1 43 13 = h.1 43 13 ∧ ∀ K : Int32 → PH → Option (Int32 × PH), (bd_2 (f_X12_takes 104 (nI sp) (nI n) h) fun r_3 h_4 => if r_3 = 0 then some (0, h_4) else bd_2 (f_X12_readsFigure (nI sp) (nI n) 2 8 (-9) h_4) fun r_5 h_6 => if r_5 = 0 then some (0, h_6) else lt_b (ph_i h_6 43 11 (h_6.1 43 10)) fun h_7 => bd_2 (f_X12_takes 59 (nI sp) (nI n) h_7) fun r_8 h_9 => if r_8 = 0 then some (0, h_9) else bd_2 (f_X12_takes 98 (nI sp) (nI n) h_9) fun r_10 h_11 => if r_10 = 0 then some (0, h_11) else bd_2 (f_X12_readsFigure (nI sp) (nI n) 0 ((h_11.1 43 11) - 1) (-9) h_11) fun r_12 h_13 => if r_12 = 0 then some (0, h_13) else K r_12 h_13) = bd_2 (f_X12_takes 59 (nI sp) (nI n) h2) fun r_8 h_9 => if r_8 = 0 then some (0, h_9) else bd_2 (f_X12_takes 98 (nI sp) (nI n) h_9) fun r_10 h_11 => if r_10 = 0 then some (0, h_11) else bd_2 (f_X12_readsFigure (nI sp) (nI n) 0 ((h_11.1 43 11) - 1) (-9) h_11) fun r_12 h_13 => if r_12 = 0 then some (0, h_13) else K r_12 h_13 := by
    intro h hc
    have hf : f_X12_readsFigure (nI sp) (nI n) 2 8 (-9) (ph_i h 43 9 (nI 1)) = some (1, ph_i (ph_i (ph_i h 43 9 (nI 1)) 43 10 (nI P)) 43 9 (nI 2)) := m_f1q (lo := 2) (hi := 8) (q := 2) hsp (mf_9 hc h1.1) rfl (by omega) (by rw [eT]; exact hP) (n9_of (by omega))
    refine ⟨ph_i (ph_i (ph_i (ph_i h 43 9 (nI 1)) 43 10 (nI P)) 43 9 (nI 2)) 43 11 (nI P), mf_j (mf_9 (mf_j (mf_9 hc h1.1) (by omega)) l2) (by omega), by rw [pr_eq, if_pos rfl], by rw [pr_eq, if_neg (by decide), pr_eq, if_neg (by decide), pr_eq, if_neg (by decide), pr_eq, if_neg (by decide)], fun K => ?_⟩
    have x10 : (ph_i (ph_i (ph_i h 43 9 (nI 1)) 43 10 (nI P)) 43 9 (nI 2)).1 43 10 = nI P := by rw [pr_eq, if_neg (by decide), pr_eq, if_pos rfl]
    rw [m_t1q (q := 1) hsp hc rfl h1m, pu_b2, if_neg z1, hf, pu_b2, if_neg z1, x10, pu_lt]
  by_cases h3 : 2 < n ∧ g.1 4 (sp + 2) = 59
  rotate_left
  · refine Or.inl ⟨2, l2, fun h hc => ?_, fun h hc K => ?_⟩
    · obtain ⟨h2, c1, c2, c3⟩ := cl h hc
      exact ⟨h2, by rw [c3, c_s0 hsp c1 h3, pu_b2, if_pos z0], c1⟩
    · obtain ⟨h2, c1, c2, c2', c3⟩ := md h hc
      exact ⟨h2, c1, by rw [c3, m_t0 hsp c1 (by rw [hT]; exact h3), pu_b2, if_pos z0]⟩
  have h3m : 2 < n ∧ gm.1 69 (sp + 2) = 59 := by rw [hT]; exact h3
  by_cases h4 : 3 < n ∧ g.1 4 (sp + 3) = 98
  rotate_left
  · refine Or.inl ⟨3, h3.1, fun h hc => ?_, fun h hc K => ?_⟩
    · obtain ⟨h2, c1, c2, c3⟩ := cl h hc
      exact ⟨ph_i h2 5 10 (nI (sp + 3)), by rw [c3, c_s1q (q := 3) hsp c1 rfl h3, pu_b2, if_neg z1, c_s0 hsp (cf_5 c1 h3.1) h4, pu_b2, if_pos z0], cf_5 c1 h3.1⟩
    · obtain ⟨h2, c1, c2, c2', c3⟩ := md h hc
      exact ⟨ph_i h2 43 9 (nI 3), mf_9 c1 h3.1, by rw [c3, m_t1q (q := 3) hsp c1 rfl h3m, pu_b2, if_neg z1, m_t0 hsp (mf_9 c1 h3.1) (by rw [hT]; exact h4), pu_b2, if_pos z0]⟩
  have h4m : 3 < n ∧ gm.1 69 (sp + 3) = 98 := by rw [hT]; exact h4
  have l4 : 4 ≤ n := h4.1
  by_cases h5 : ∃ B, dgt (fun i => g.1 4 (sp + i)) n 4 0 (P - 1) B
  rotate_left
  · refine Or.inl ⟨4, l4, fun h hc => ?_, fun h hc K => ?_⟩
    · obtain ⟨h2, c1, c2, c3⟩ := cl h hc
      have r4 : (ph_i (ph_i h2 5 10 (nI (sp + 3))) 5 10 (nI (sp + 4))).1 5 4 = nI P := by rw [pr_eq, if_neg (by decide), pr_eq, if_neg (by decide)]; exact c2
      have hd : f_X10_digit 0 (nI (P - 1)) (ph_i (ph_i h2 5 10 (nI (sp + 3))) 5 10 (nI (sp + 4))) = some (-1, ph_i (ph_i h2 5 10 (nI (sp + 3))) 5 10 (nI (sp + 4))) := c_d0 (lo := 0) hsp (cf_5 (cf_5 c1 h3.1) l4) (by omega) (by omega) h5
      refine ⟨ph_i (ph_i (ph_i h2 5 10 (nI (sp + 3))) 5 10 (nI (sp + 4))) 5 5 (-1), ?_, cf_4 (cf_5 (cf_5 c1 h3.1) l4) (by decide)⟩
      rw [c3, c_s1q (q := 3) hsp c1 rfl h3, pu_b2, if_neg z1, c_s1q (q := 4) hsp (cf_5 c1 h3.1) rfl h4, pu_b2, if_neg z1, r4, e4, hd, pu_b2, pu_lt, pr_eq, if_pos rfl, if_pos rfl]
    · obtain ⟨h2, c1, c2, c2', c3⟩ := md h hc
      have r11 : (ph_i (ph_i h2 43 9 (nI 3)) 43 9 (nI 4)).1 43 11 = nI P := by rw [pr_eq, if_neg (by decide), pr_eq, if_neg (by decide)]; exact c2
      obtain ⟨v, hv⟩ := m_f0 (lo := 0) (hi := P - 1) (but := -9) hsp (mf_9 (mf_9 c1 h3.1) l4) (by omega) (by omega) (fun ⟨d, hd, _⟩ => h5 ⟨d, by rw [eT] at hd; exact hd⟩)
      have hv' : f_X12_readsFigure (nI sp) (nI n) 0 (nI (P - 1)) (-9) (ph_i (ph_i h2 43 9 (nI 3)) 43 9 (nI 4)) = some (0, ph_i (ph_i (ph_i h2 43 9 (nI 3)) 43 9 (nI 4)) 43 10 v) := hv
      refine ⟨ph_i (ph_i (ph_i h2 43 9 (nI 3)) 43 9 (nI 4)) 43 10 v, mf_j (mf_9 (mf_9 c1 h3.1) l4) (by omega), ?_⟩
      rw [c3, m_t1q (q := 3) hsp c1 rfl h3m, pu_b2, if_neg z1, m_t1q (q := 4) hsp (mf_9 c1 h3.1) rfl h4m, pu_b2, if_neg z1, r11, e4, hv', pu_b2, if_pos z0]
  obtain ⟨B, hB⟩ := h5
  have hBP : B < P := by have := hB.2.2.2; omega
  have nB : ¬ nI B = -1 := nI_n1 (by omega)
  have l5 : 5 ≤ n := hB.1
  refine Or.inr ⟨P, B, hP2, hP8, hBP, fun h hc => ?_, fun h hc K => ?_⟩
  · obtain ⟨h2, c1, c2, c3⟩ := cl h hc
    have r4 : (ph_i (ph_i h2 5 10 (nI (sp + 3))) 5 10 (nI (sp + 4))).1 5 4 = nI P := by rw [pr_eq, if_neg (by decide), pr_eq, if_neg (by decide)]; exact c2
    have hd : f_X10_digit 0 (nI (P - 1)) (ph_i (ph_i h2 5 10 (nI (sp + 3))) 5 10 (nI (sp + 4))) = some (nI B, ph_i (ph_i (ph_i h2 5 10 (nI (sp + 3))) 5 10 (nI (sp + 4))) 5 10 (nI (sp + 5))) := c_d1 (lo := 0) hsp (cf_5 (cf_5 c1 h3.1) l4) (by omega) hB
    refine ⟨ph_i (ph_i (ph_i (ph_i h2 5 10 (nI (sp + 3))) 5 10 (nI (sp + 4))) 5 10 (nI (sp + 5))) 5 5 (nI B), ?_, cf_4 (cf_5 (cf_5 (cf_5 c1 h3.1) l4) l5) (by decide), ?_, by rw [pr_eq, if_pos rfl]⟩
    · rw [c3, c_s1q (q := 3) hsp c1 rfl h3, pu_b2, if_neg z1, c_s1q (q := 4) hsp (cf_5 c1 h3.1) rfl h4, pu_b2, if_neg z1, r4, e4, hd, pu_b2, pu_lt, pr_eq, if_pos rfl, if_neg nB]
    · rw [pr_eq, if_neg (by decide), pr_eq, if_neg (by decide)]; exact r4
  · obtain ⟨h2, c1, c2, c2', c3⟩ := md h hc
    have r11 : (ph_i (ph_i h2 43 9 (nI 3)) 43 9 (nI 4)).1 43 11 = nI P := by rw [pr_eq, if_neg (by decide), pr_eq, if_neg (by decide)]; exact c2
    have hf : f_X12_readsFigure (nI sp) (nI n) 0 (nI (P - 1)) (-9) (ph_i (ph_i h2 43 9 (nI 3)) 43 9 (nI 4)) = some (1, ph_i (ph_i (ph_i (ph_i h2 43 9 (nI 3)) 43 9 (nI 4)) 43 10 (nI B)) 43 9 (nI 5)) := m_f1q (lo := 0) (q := 5) hsp (mf_9 (mf_9 c1 h3.1) l4) rfl (by omega) (by rw [eT]; exact hB) (n9_of (by omega))
    refine ⟨ph_i (ph_i (ph_i (ph_i h2 43 9 (nI 3)) 43 9 (nI 4)) 43 10 (nI B)) 43 9 (nI 5), mf_9 (mf_j (mf_9 (mf_9 c1 h3.1) l4) (by omega)) l5, ?_, ?_, ?_, ?_⟩
    · rw [pr_eq, if_neg (by decide), pr_eq, if_neg (by decide)]; exact r11
    · rw [pr_eq, if_neg (by decide), pr_eq, if_pos rfl]
    · rw [pr_eq, if_neg (by decide), pr_eq, if_neg (by decide), pr_eq, if_neg (by decide), pr_eq, if_neg (by decide)]; exact c2'
    · rw [c3, m_t1q (q := 3) hsp c1 rfl h3m, pu_b2, if_neg z1, m_t1q (q := 4) hsp (mf_9 c1 h3.1) rfl h4m, pu_b2, if_neg z1, r11, e4, hf, pu_b2, if_neg z1]
/-- the whole text -/
theorem read_both {g gm : PH} {sp n : Nat} (hsp : sp + n ≤ 400) (hT : ∀ i, gm.1 69 (sp + i) = g.1 4 (sp + i)) : (∃ q, q ≤ n ∧ (∃ h2, f_X10_isRead (nI sp) (nI n) g = some (0, h2) ∧ CF g sp n h2 q) ∧ ∃ h2, f_X12_readsHouse (nI sp) (nI n) gm = some (0, h2) ∧ MF gm sp n h2 q) ∨ ∃ P B R f t y d, 2 ≤ P ∧ P ≤ 8 ∧ B < P ∧ 1 ≤ R ∧ R ≤ 14 ∧ (∀ j, j < R → okr P f t y d j) ∧ (∃ h2, f_X10_isRead (nI sp) (nI n) g = some (1, h2) ∧ CCd g sp n P B R f t y d n h2 ∧ h2.1 5 6 = nI R) ∧ ∃ h2, f_X12_readsHouse (nI sp) (nI n) gm = some (1, h2) ∧ MCd gm sp n P B R f t y d n h2 := by
  have z1 : ¬ (1 : Int32) = 0 := by decide
  have z0 : (0 : Int32) = 0 := rfl
  obtain ⟨gc, egc⟩ : ∃ gc, gc = ph_i (ph_i (ph_i (ph_i (ph_i g 5 7 1) 5 8 (nI sp)) 5 9 (nI (sp + n))) 5 10 (nI sp)) 5 6 0 := ⟨_, rfl⟩
  have C0 : CF g sp n gc 0 := by
    rw [egc]
    refine ⟨fun a a1 a2 a3 a4 a5 => by rw [pr_ne a1, pr_ne a1, pr_ne a1, pr_ne a1, pr_ne a1], rfl, ?_, ?_, ?_, ?_, by omega⟩
    · rw [pr_eq, if_neg (by decide), pr_eq, if_neg (by decide), pr_eq, if_neg (by decide), pr_eq, if_neg (by decide), pr_eq, if_pos rfl]
    · rw [pr_eq, if_neg (by decide), pr_eq, if_neg (by decide), pr_eq, if_neg (by decide), pr_eq, if_pos rfl]
    · rw [pr_eq, if_neg (by decide), pr_eq, if_neg (by decide), pr_eq, if_pos rfl]
    · rw [pr_eq, if_neg (by decide), pr_eq, if_pos rfl]
      rfl
  obtain ⟨mc, emc⟩ : ∃ mc, mc = ph_i (ph_i gm 43 9 0) 43 13 0 := ⟨_, rfl⟩
  have D0 : MF gm sp n mc 0 := by
    rw [emc]
    refine ⟨fun a a1 a2 a3 a4 a5 => by rw [pr_ne a1, pr_ne a1], fun j hj => by rw [pr_eq, if_neg (by omega), pr_eq, if_neg (by omega)], rfl, ?_, by omega⟩
    rw [pr_eq, if_neg (by decide), pr_eq, if_pos rfl]
    rfl
  have m13 : mc.1 43 13 = nI 0 := by rw [emc, pr_eq, if_pos rfl]; rfl
  have clE : f_X10_isRead (nI sp) (nI n) g = bd_2 (f_X10_isHeadRead gc) fun r_6 h_7 => if r_6 = 0 then some (0, h_7) else bd_2 (f_X10_areRunsRead h_7) fun r_8 h_9 => if r_8 = 0 then some (0, h_9) else some (1, h_9) := by
    unfold f_X10_isRead
    rw [pu_lt, pu_lt, nI_add, pu_lt, pu_lt, pu_lt, ← egc]
  have mdE : f_X12_readsHouse (nI sp) (nI n) gm = bd_2 (f_X12_takes 104 (nI sp) (nI n) mc) fun r_3 h_4 => if r_3 = 0 then some (0, h_4) else bd_2 (f_X12_readsFigure (nI sp) (nI n) 2 8 (-9) h_4) fun r_5 h_6 => if r_5 = 0 then some (0, h_6) else lt_b (ph_i h_6 43 11 (h_6.1 43 10)) fun h_7 => bd_2 (f_X12_takes 59 (nI sp) (nI n) h_7) fun r_8 h_9 => if r_8 = 0 then some (0, h_9) else bd_2 (f_X12_takes 98 (nI sp) (nI n) h_9) fun r_10 h_11 => if r_10 = 0 then some (0, h_11) else bd_2 (f_X12_readsFigure (nI sp) (nI n) 0 ((h_11.1 43 11) - 1) (-9) h_11) fun r_12 h_13 => if r_12 = 0 then some (0, h_13) else (fun (_ : Int32) h_13 => lt_b (ph_i h_13 43 12 (h_13.1 43 10)) fun h_14 => bd_1 (lp_f (fun s => lb_X12_readsHouse_95 (nI sp) (nI n) s) fu_l h_14) fun s_31 => sw_b s_31 (fun r_33 => some r_33) fun e_32 => some (0, e_32)) r_12 h_13 := by
    unfold f_X12_readsHouse
    rw [pu_lt, pu_lt, ← emc]
  rcases head_both hsp hT with ⟨q, hq, i1, i2⟩ | ⟨P, B, hP2, hP8, hBP, i1, i2⟩
  · left
    obtain ⟨h2, j1, j2⟩ := i1 gc C0
    obtain ⟨h3, j3, j4⟩ := i2 mc D0 (fun (_ : Int32) h_13 => lt_b (ph_i h_13 43 12 (h_13.1 43 10)) fun h_14 => bd_1 (lp_f (fun s => lb_X12_readsHouse_95 (nI sp) (nI n) s) fu_l h_14) fun s_31 => sw_b s_31 (fun r_33 => some r_33) fun e_32 => some (0, e_32))
    exact ⟨q, hq, ⟨h2, by rw [clE, j1, pu_b2, if_pos z0], j2⟩, h3, by rw [mdE, j4], j3⟩
  · obtain ⟨h2, j1, j2, j3, j4⟩ := i1 gc C0
    obtain ⟨h3, k1, k2, k3, k4, k5⟩ := i2 mc D0 (fun (_ : Int32) h_13 => lt_b (ph_i h_13 43 12 (h_13.1 43 10)) fun h_14 => bd_1 (lp_f (fun s => lb_X12_readsHouse_95 (nI sp) (nI n) s) fu_l h_14) fun s_31 => sw_b s_31 (fun r_33 => some r_33) fun e_32 => some (0, e_32))
    have hc2 : CCd g sp n P B 0 (fun _ => 0) (fun _ => 0) (fun _ => 0) (fun _ => 0) 5 h2 := ⟨j2, j3, j4, fun j hj => by omega⟩
    have hm2 : MCd gm sp n P B 0 (fun _ => 0) (fun _ => 0) (fun _ => 0) (fun _ => 0) 5 (ph_i h3 43 12 (nI B)) := ⟨mf_j k1 (by omega), by rw [pr_eq, if_neg (by decide)]; exact k2, by rw [pr_eq, if_pos rfl], by rw [pr_eq, if_neg (by decide), k4]; exact m13, fun j hj => by omega⟩
    rcases runs_both (B := B) hsp hT ⟨hP2, hP8⟩ 14 0 5 (fun _ => 0) (fun _ => 0) (fun _ => 0) (fun _ => 0) (by omega) (Or.inl rfl) (fun j hj => by omega) with ⟨q, hq, r1, r2⟩ | ⟨R, f, t, y, d, hR1, hR2, hok, r1, r2⟩
    · left
      obtain ⟨h4, s1, s2⟩ := r1 h2 hc2 fu_l (by unfold fu_l; omega)
      obtain ⟨h5, t1, t2⟩ := r2 _ hm2 fu_l (by unfold fu_l; omega)
      refine ⟨q, hq, ⟨h4, ?_, s1⟩, h5, ?_, t1⟩
      · rw [clE, j1, pu_b2, if_neg z1]
        unfold f_X10_areRunsRead
        rcases s2 with s2 | ⟨x, s2⟩
        · have s2' : lp_f (fun s => lb_X10_areRunsRead_2 s.1 s.2) fu_l (0, h2) = some (.inl (0, h4)) := s2
          rw [s2', pu_b1, pu_sl, pu_b2, if_pos z0]
        · have s2' : lp_f (fun s => lb_X10_areRunsRead_2 s.1 s.2) fu_l (0, h2) = some (.inr (x, h4)) := s2
          rw [s2', pu_b1, pu_sr, pu_b2, if_pos z0]
      · rw [mdE, k5]
        rw [pu_lt, k3, t2, pu_b1, pu_sr]
    · right
      obtain ⟨h4, s1, s1', s2⟩ := r1 h2 hc2 fu_l (by unfold fu_l; omega)
      obtain ⟨h5, t1, t2⟩ := r2 _ hm2 fu_l (by unfold fu_l; omega)
      refine ⟨P, B, R, f, t, y, d, hP2, hP8, hBP, hR1, hR2, hok, ⟨h4, ?_, s1, s1'⟩, h5, ?_, t1⟩
      · rw [clE, j1, pu_b2, if_neg z1]
        unfold f_X10_areRunsRead
        have s2' : lp_f (fun s => lb_X10_areRunsRead_2 s.1 s.2) fu_l (0, h2) = some (.inl (1, h4)) := s2
        rw [s2', pu_b1, pu_sl, pu_b2, if_neg z1]
      · rw [mdE, k5]
        rw [pu_lt, k3, t2, pu_b1, pu_sl]
