theorem s_take {h7 : PH} {P B R : Nat} {f t y d : Nat → Nat} (a4 : h7.1 5 4 = nI P) (a5 : h7.1 5 5 = nI B) (a6 : h7.1 5 6 = nI R) (hP : P ≤ 8) (hR : R ≤ 14) (hr : ∀ j, j < R → h7.1 6 j = nI (f j) ∧ h7.1 7 j = nI (t j) ∧ h7.1 8 j = nI (y j) ∧ h7.1 9 j = nI (d j)) (hok : ∀ j, j < R → okr P f t y d j) : ∃ H : PH, f_X3_take h7 = some ((), ph_r H 16 (mt (H.1 16) (fw P (rn (hv_f H) (hv_t H) (hv_c H) (fun k => H.1 15 k == 0) R) P))) ∧ (∀ a, a ≠ 10 → a ≠ 11 → a ≠ 12 → a ≠ 13 → a ≠ 14 → a ≠ 15 → H.1 a = h7.1 a) ∧ H.2 = h7.2 ∧ H.1 10 0 = nI P ∧ H.1 10 1 = nI B ∧ H.1 10 2 = nI R ∧ ∀ j, j < R → H.1 11 j = nI (f j) ∧ H.1 12 j = nI (t j) ∧ H.1 13 j = nI (y j) ∧ H.1 14 j = nI (d j) ∧ H.1 15 j = 0 := by
  obtain ⟨h3, e3⟩ : ∃ h3, h3 = ph_i (ph_i (ph_i h7 10 0 (nI P)) 10 1 (nI B)) 10 2 (nI R) := ⟨_, rfl⟩
  have b0 : h3.1 10 0 = nI P := by rw [e3, pr_eq, if_neg (by decide), pr_eq, if_neg (by decide), pr_eq, if_pos rfl]
  have b1 : h3.1 10 1 = nI B := by rw [e3, pr_eq, if_neg (by decide), pr_eq, if_pos rfl]
  have b2 : h3.1 10 2 = nI R := by rw [e3, pr_eq, if_pos rfl]
  have bo : ∀ a, a ≠ 10 → h3.1 a = h7.1 a := fun a ha => by rw [e3, pr_ne ha, pr_ne ha, pr_ne ha]
  have bs : h3.2 = h7.2 := by rw [e3]; rfl
  have go : f_X3_take h7 = bd_1 (lp_f (fun s => lb_X3_take_26 s.1 s.2) fu_l (0, h3)) fun s_38 => bd_2 (f_X3_reckon s_38.2) fun r_39 h_40 => some ((), h_40) := by
    unfold f_X3_take
    rw [pu_lt, a4, pr_ne (by decide), a5, pu_lt, pr_ne (by decide), pr_ne (by decide), a6, pu_lt, ← e3]
  obtain ⟨r, hl, i, H, hr1, hH1, hH2, hH3, hi⟩ := lp_inv (body := fun s => lb_X3_take_26 s.1 s.2) (fun s => R - s.1.toNatClampNeg) (fun s => ∃ i H, s = (nI i, H) ∧ (∀ a, a ≠ 11 → a ≠ 12 → a ≠ 13 → a ≠ 14 → a ≠ 15 → H.1 a = h3.1 a) ∧ H.2 = h3.2 ∧ (∀ j, j < i → H.1 11 j = nI (f j) ∧ H.1 12 j = nI (t j) ∧ H.1 13 j = nI (y j) ∧ H.1 14 j = nI (d j) ∧ H.1 15 j = 0) ∧ i ≤ R) (fun r => ∃ i H, r = (nI i, H) ∧ (∀ a, a ≠ 11 → a ≠ 12 → a ≠ 13 → a ≠ 14 → a ≠ 15 → H.1 a = h3.1 a) ∧ H.2 = h3.2 ∧ (∀ j, j < i → H.1 11 j = nI (f j) ∧ H.1 12 j = nI (t j) ∧ H.1 13 j = nI (y j) ∧ H.1 14 j = nI (d j) ∧ H.1 15 j = 0) ∧ i = R) (fun s hs => by
    obtain ⟨i, H, rfl, q1, q2, q3, q4⟩ := hs
    have c2 : H.1 10 2 = nI R := by rw [q1 10 (by decide) (by decide) (by decide) (by decide) (by decide)]; exact b2
    by_cases hi : i = R
    · subst hi
      refine Or.inr ⟨(nI i, H), ?_, i, H, rfl, q1, q2, q3, rfl⟩
      show lb_X3_take_26 (nI i) H = _
      unfold lb_X3_take_26
      rw [c2, if_pos (nI_le (Nat.le_refl _) (by omega))]
    · have hiR : i < R := by omega
      have i14 : i < 14 := by omega
      have hci : (nI i).toNatClampNeg = i := nI_clamp (by omega)
      have row : ∀ a, a = 6 ∨ a = 7 ∨ a = 8 ∨ a = 9 → H.1 a = h7.1 a := fun a ha => by rw [q1 a (by omega) (by omega) (by omega) (by omega) (by omega), bo a (by omega)]
      obtain ⟨r6, r7, r8, r9⟩ := hr i hiR
      have v6 : H.1 6 i = nI (f i) := by rw [row 6 (by omega)]; exact r6
      have v7 : H.1 7 i = nI (t i) := by rw [row 7 (by omega)]; exact r7
      have v8 : H.1 8 i = nI (y i) := by rw [row 8 (by omega)]; exact r8
      have v9 : H.1 9 i = nI (d i) := by rw [row 9 (by omega)]; exact r9
      refine Or.inl ⟨(nI (i + 1), ph_i (ph_i (ph_i (ph_i (ph_i H 11 i (nI (f i))) 12 i (nI (t i))) 13 i (nI (y i))) 14 i (nI (d i))) 15 i 0), ?_, ⟨i + 1, _, rfl, fun a a1 a2 a3 a4 a5 => ?_, q2, fun j hj => ?_, by omega⟩, ?_⟩
      · show lb_X3_take_26 (nI i) H = _
        unfold lb_X3_take_26
        rw [c2, if_neg (nI_ge hiR (by omega)), if_neg (show ¬ (14 : Int32) ≤ nI i from nI_ge i14 (by decide)), pu_gn i14 (by decide), pu_gn i14 (by decide), hci, v6, pu_lt, pu_gn i14 (by decide), pu_gn i14 (by decide), pr_ne (by decide), v7, pu_lt, pu_gn i14 (by decide), pu_gn i14 (by decide), pr_ne (by decide), pr_ne (by decide), v8, pu_lt, pu_gn i14 (by decide), pu_gn i14 (by decide), pr_ne (by decide), pr_ne (by decide), pr_ne (by decide), v9, pu_lt, pu_gn i14 (by decide), pu_lt, ← nI_succ, pu_lt]
      · rw [pr_ne a5, pr_ne a4, pr_ne a3, pr_ne a2, pr_ne a1]
        exact q1 a a1 a2 a3 a4 a5
      · rw [pr_ne (show 11 ≠ 15 by decide), pr_ne (show 11 ≠ 14 by decide), pr_ne (show 11 ≠ 13 by decide), pr_ne (show 11 ≠ 12 by decide), pr_eq, pr_ne (show 12 ≠ 15 by decide), pr_ne (show 12 ≠ 14 by decide), pr_ne (show 12 ≠ 13 by decide), pr_eq, pr_ne (show 12 ≠ 11 by decide), pr_ne (show 13 ≠ 15 by decide), pr_ne (show 13 ≠ 14 by decide), pr_eq, pr_ne (show 13 ≠ 12 by decide), pr_ne (show 13 ≠ 11 by decide), pr_ne (show 14 ≠ 15 by decide), pr_eq, pr_ne (show 14 ≠ 13 by decide), pr_ne (show 14 ≠ 12 by decide), pr_ne (show 14 ≠ 11 by decide), pr_eq, pr_ne (show 15 ≠ 14 by decide), pr_ne (show 15 ≠ 13 by decide), pr_ne (show 15 ≠ 12 by decide), pr_ne (show 15 ≠ 11 by decide)]
        by_cases hji : j = i
        · rw [if_pos hji, if_pos hji, if_pos hji, if_pos hji, if_pos hji, hji]
          exact ⟨rfl, rfl, rfl, rfl, rfl⟩
        · rw [if_neg hji, if_neg hji, if_neg hji, if_neg hji, if_neg hji]
          exact q3 j (by omega)
      · show R - (nI (i + 1)).toNatClampNeg < R - (nI i).toNatClampNeg
        rw [nI_clamp (by omega), hci]
        omega) fu_l (0, h3) ⟨0, h3, rfl, fun a _ _ _ _ _ => rfl, rfl, fun j hj => by omega, by omega⟩ (by
      show R - (0 : Int32).toNatClampNeg < fu_l
      unfold fu_l
      omega)
  subst hr1
  rw [hl, pu_b1] at go
  subst hi
  have g10 : H.1 10 = h3.1 10 := hH1 10 (by decide) (by decide) (by decide) (by decide) (by decide)
  have hrc : hr_c H P i (hv_f H) (hv_t H) (hv_y H) (hv_d H) := by
    refine ⟨by rw [g10]; exact b0, by rw [g10]; exact b2, hP, hR, fun k hk => ?_⟩
    obtain ⟨k1, k2, k3, k4, k5⟩ := hH3 k hk
    obtain ⟨o1, o2, o3, o4, o5, o6⟩ := hok k hk
    unfold hv_f hv_t hv_y hv_d
    rw [k1, k2, k3, k4, nI_clamp (by omega), nI_clamp (by omega), nI_clamp (by omega), nI_clamp (by omega)]
    exact ⟨rfl, rfl, rfl, rfl, o1, o2, o4, o5, o6⟩
  refine ⟨H, ?_, fun a a0 a1 a2 a3 a4 a5 => by rw [hH1 a a1 a2 a3 a4 a5, bo a a0], by rw [hH2, bs], by rw [g10]; exact b0, by rw [g10]; exact b1, by rw [g10]; exact b2, hH3⟩
  rw [go, s_reckon hrc, pu_b2]
theorem s_forget (h : PH) : ∃ g : PH, f_X11_forgetWays h = some ((), g) ∧ g.1 = (ph_i h 0 5 0).1 ∧ g.2.2.2 = h.2.2.2 ∧ (∀ k x o, g.2.2.1 k x = some o → h.2.2.1 k x = some o) ∧ ∀ x, x < 6 → g.2.2.1 22 x = none := by
  obtain ⟨r, hl, i, H, rfl, hH1, hH2, hH3, hH4, hi⟩ := lp_inv (body := fun s => lb_X11_forgetWays_2 s.1 s.2) (fun s => 6 - s.1.toNatClampNeg) (fun s => ∃ i H, s = (nI i, H) ∧ H.1 = h.1 ∧ H.2.2.2 = h.2.2.2 ∧ (∀ k x o, H.2.2.1 k x = some o → h.2.2.1 k x = some o) ∧ (∀ x, x < i → H.2.2.1 22 x = none) ∧ i ≤ 6) (fun r => ∃ i H, r = (nI i, H) ∧ H.1 = h.1 ∧ H.2.2.2 = h.2.2.2 ∧ (∀ k x o, H.2.2.1 k x = some o → h.2.2.1 k x = some o) ∧ (∀ x, x < i → H.2.2.1 22 x = none) ∧ i = 6) (fun s hs => by
    obtain ⟨i, H, rfl, q1, q2, q3, q4, q5⟩ := hs
    by_cases hi : i = 6
    · subst hi
      exact Or.inr ⟨(nI 6, H), rfl, 6, H, rfl, q1, q2, q3, q4, rfl⟩
    · have hi6 : i < 6 := by omega
      have hci : (nI i).toNatClampNeg = i := nI_clamp (by omega)
      have w : ∀ k x, (ph_w H 22 i none).2.2.1 k x = if k = 22 ∧ x = i then none else H.2.2.1 k x := by
        intro k x
        show up_R H.2.2.1 22 (va_up (H.2.2.1 22) i none) k x = _
        unfold up_R
        by_cases hk : k = 22
        · subst hk
          rw [if_pos rfl]
          unfold va_up
          by_cases hx : x = i
          · rw [if_pos hx, if_pos ⟨rfl, hx⟩]
          · rw [if_neg hx, if_neg (fun q => hx q.2)]
        · rw [if_neg hk, if_neg (fun q => hk q.1)]
      refine Or.inl ⟨(nI (i + 1), ph_w H 22 i none), ?_, ⟨i + 1, _, rfl, q1, q2, fun k x o ho => ?_, fun x hx => ?_, by omega⟩, ?_⟩
      · show lb_X11_forgetWays_2 (nI i) H = _
        unfold lb_X11_forgetWays_2
        rw [if_neg (show ¬ (6 : Int32) ≤ nI i from nI_ge hi6 (by decide)), pu_gn hi6 (by decide), hci, pu_lt, ← nI_succ, pu_lt]
      · rw [w] at ho
        by_cases hq : k = 22 ∧ x = i
        · rw [if_pos hq] at ho; cases ho
        · rw [if_neg hq] at ho; exact q3 k x o ho
      · rw [w]
        by_cases hxi : x = i
        · rw [if_pos ⟨rfl, hxi⟩]
        · rw [if_neg (fun q => hxi q.2)]
          exact q4 x (by omega)
      · show 6 - (nI (i + 1)).toNatClampNeg < 6 - (nI i).toNatClampNeg
        rw [nI_clamp (by omega), hci]
        omega) fu_l (0, h) ⟨0, h, rfl, rfl, rfl, fun _ _ _ q => q, fun x hx => by omega, by omega⟩ (by
      show 6 - (0 : Int32).toNatClampNeg < fu_l
      unfold fu_l
      omega)
  subst hi
  refine ⟨ph_i H 0 5 0, ?_, ?_, hH2, hH3, hH4⟩
  · unfold f_X11_forgetWays
    rw [hl, pu_b1, pu_lt]
  · show up_R H.1 0 (upd (H.1 0) 5 0) = up_R h.1 0 (upd (h.1 0) 5 0)
    rw [hH1]
