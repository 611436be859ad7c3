theorem m_take {h3 : PH} {R : Nat} {f t y d : Nat → Nat} (b2 : h3.1 43 3 = nI R) (hR : R ≤ 14) (hr : ∀ j, j < R → h3.1 49 j = nI (f j) ∧ h3.1 50 j = nI (t j) ∧ h3.1 51 j = nI (y j) ∧ h3.1 52 j = nI (d j)) : ∃ (x : Int32) (H : PH), lp_f (fun s => lb_X12_house_101 s.1 s.2) fu_l (0, h3) = some (x, H) ∧ (∀ a, a ≠ 44 → a ≠ 45 → a ≠ 46 → a ≠ 47 → a ≠ 48 → H.1 a = h3.1 a) ∧ H.2 = h3.2 ∧ ∀ j, j < R → H.1 44 j = nI (f j) ∧ H.1 45 j = nI (t j) ∧ H.1 46 j = nI (y j) ∧ H.1 47 j = nI (d j) ∧ H.1 48 j = 0 := by
  obtain ⟨r, hl, i, H, hr1, hH1, hH2, hH3, hi⟩ := lp_inv (body := fun s => lb_X12_house_101 s.1 s.2) (fun s => R - s.1.toNatClampNeg) (fun s => ∃ i H, s = (nI i, H) ∧ (∀ a, a ≠ 44 → a ≠ 45 → a ≠ 46 → a ≠ 47 → a ≠ 48 → H.1 a = h3.1 a) ∧ H.2 = h3.2 ∧ (∀ j, j < i → H.1 44 j = nI (f j) ∧ H.1 45 j = nI (t j) ∧ H.1 46 j = nI (y j) ∧ H.1 47 j = nI (d j) ∧ H.1 48 j = 0) ∧ i ≤ R) (fun r => ∃ i H, r = (nI i, H) ∧ (∀ a, a ≠ 44 → a ≠ 45 → a ≠ 46 → a ≠ 47 → a ≠ 48 → H.1 a = h3.1 a) ∧ H.2 = h3.2 ∧ (∀ j, j < i → H.1 44 j = nI (f j) ∧ H.1 45 j = nI (t j) ∧ H.1 46 j = nI (y j) ∧ H.1 47 j = nI (d j) ∧ H.1 48 j = 0) ∧ i = R) (fun s hs => by
    obtain ⟨i, H, rfl, q1, q2, q3, q4⟩ := hs
    have c2 : H.1 43 3 = nI R := by rw [q1 43 (by decide) (by decide) (by decide) (by decide) (by decide)]; exact b2
    by_cases hi : i = R
    · subst hi
      refine Or.inr ⟨(nI i, H), ?_, i, H, rfl, q1, q2, q3, rfl⟩
      show lb_X12_house_101 (nI i) H = _
      unfold lb_X12_house_101
      rw [c2, if_pos (nI_le (Nat.le_refl _) (by omega))]
    · have hiR : i < R := by omega
      have i14 : i < 14 := by omega
      have hci : (nI i).toNatClampNeg = i := nI_clamp (by omega)
      have row : ∀ a, a = 49 ∨ a = 50 ∨ a = 51 ∨ a = 52 → H.1 a = h3.1 a := fun a ha => by rw [q1 a (by omega) (by omega) (by omega) (by omega) (by omega)]
      obtain ⟨r6, r7, r8, r9⟩ := hr i hiR
      have v6 : H.1 49 i = nI (f i) := by rw [row 49 (by omega)]; exact r6
      have v7 : H.1 50 i = nI (t i) := by rw [row 50 (by omega)]; exact r7
      have v8 : H.1 51 i = nI (y i) := by rw [row 51 (by omega)]; exact r8
      have v9 : H.1 52 i = nI (d i) := by rw [row 52 (by omega)]; exact r9
      refine Or.inl ⟨(nI (i + 1), ph_i (ph_i (ph_i (ph_i (ph_i H 44 i (nI (f i))) 45 i (nI (t i))) 46 i (nI (y i))) 47 i (nI (d i))) 48 i 0), ?_, ⟨i + 1, _, rfl, fun a a1 a2 a3 a4 a5 => ?_, q2, fun j hj => ?_, by omega⟩, ?_⟩
      · show lb_X12_house_101 (nI i) H = _
        unfold lb_X12_house_101
        rw [c2, if_neg (nI_ge hiR (by omega)), pu_gn i14 (by decide), pu_gn i14 (by decide), hci, v6, pu_lt, pu_gn i14 (by decide), pu_gn i14 (by decide), pr_ne (by decide), v7, pu_lt, pu_gn i14 (by decide), pu_gn i14 (by decide), pr_ne (by decide), pr_ne (by decide), v8, pu_lt, pu_gn i14 (by decide), pu_gn i14 (by decide), pr_ne (by decide), pr_ne (by decide), pr_ne (by decide), v9, pu_lt, pu_gn i14 (by decide), pu_lt, ← nI_succ, pu_lt]
      · rw [pr_ne a5, pr_ne a4, pr_ne a3, pr_ne a2, pr_ne a1]
        exact q1 a a1 a2 a3 a4 a5
      · rw [pr_ne (show 44 ≠ 48 by decide), pr_ne (show 44 ≠ 47 by decide), pr_ne (show 44 ≠ 46 by decide), pr_ne (show 44 ≠ 45 by decide), pr_eq, pr_ne (show 45 ≠ 48 by decide), pr_ne (show 45 ≠ 47 by decide), pr_ne (show 45 ≠ 46 by decide), pr_eq, pr_ne (show 45 ≠ 44 by decide), pr_ne (show 46 ≠ 48 by decide), pr_ne (show 46 ≠ 47 by decide), pr_eq, pr_ne (show 46 ≠ 45 by decide), pr_ne (show 46 ≠ 44 by decide), pr_ne (show 47 ≠ 48 by decide), pr_eq, pr_ne (show 47 ≠ 46 by decide), pr_ne (show 47 ≠ 45 by decide), pr_ne (show 47 ≠ 44 by decide), pr_eq, pr_ne (show 48 ≠ 47 by decide), pr_ne (show 48 ≠ 46 by decide), pr_ne (show 48 ≠ 45 by decide), pr_ne (show 48 ≠ 44 by decide)]
        by_cases hji : j = i
        · rw [if_pos hji, if_pos hji, if_pos hji, if_pos hji, if_pos hji, hji]
          exact ⟨rfl, rfl, rfl, rfl, rfl⟩
        · rw [if_neg hji, if_neg hji, if_neg hji, if_neg hji, if_neg hji]
          exact q3 j (by omega)
      · show R - (nI (i + 1)).toNatClampNeg < R - (nI i).toNatClampNeg
        rw [nI_clamp (by omega), hci]
        omega) fu_l (0, h3) ⟨0, h3, rfl, fun a _ _ _ _ _ => rfl, rfl, fun j hj => by omega, by omega⟩ (by
      show R - (0 : Int32).toNatClampNeg < fu_l
      unfold fu_l
      omega)
  subst hr1
  subst hi
  exact ⟨_, H, hl, hH1, hH2, hH3⟩
/-- the rows that reading a text and taking a house may change -/
theorem inv_house {n : Nat} {h g : PH} {P B R : Nat} {f t y d : Nat → Nat} (hi : Inv n h) (hP : 2 ≤ P ∧ P ≤ 8) (hB : B < P) (hR : R ≤ 14) (hok : ∀ j, j < R → okr P f t y d j) (E : ∀ a, sc_b a = false → a ≠ 10 → a ≠ 11 → a ≠ 12 → a ≠ 13 → a ≠ 14 → a ≠ 15 → a ≠ 16 → a ≠ 17 → a ≠ 37 → a ≠ 44 → a ≠ 45 → a ≠ 46 → a ≠ 47 → a ≠ 48 → a ≠ 53 → g.1 a = h.1 a) (e05 : g.1 0 5 = 0) (e011 : g.1 0 11 = 0) (f0 : g.1 43 0 = 0) (f44 : g.1 43 44 = h.1 43 44) (g0 : g.1 10 0 = nI P) (g1 : g.1 10 1 = nI B) (g2 : g.1 10 2 = nI R) (f1 : g.1 43 1 = nI P) (f2 : g.1 43 2 = nI B) (f3 : g.1 43 3 = nI R) (gc : ∀ j, j < R → g.1 11 j = nI (f j) ∧ g.1 12 j = nI (t j) ∧ g.1 13 j = nI (y j) ∧ g.1 14 j = nI (d j) ∧ g.1 15 j = 0) (gm : ∀ j, j < R → g.1 44 j = nI (f j) ∧ g.1 45 j = nI (t j) ∧ g.1 46 j = nI (y j) ∧ g.1 47 j = nI (d j) ∧ g.1 48 j = 0) (g17 : g.1 17 0 = 0) (f19 : g.1 43 19 = 0) (f23 : g.1 43 23 = 0) (g37 : g.1 37 0 = 0) (f37 : g.1 43 37 = 0) (w22 : ∀ x, x < 6 → g.2.2.1 22 x = none) (wn : ∀ k x o, g.2.2.1 k x = some o → h.2.2.1 k x = some o) (e3 : g.2.2.2 = h.2.2.2) (hX : iv_H g → iv_X g) : Inv (n + 1) g := by
  obtain ⟨hS, hF, _, _, _, hW, _, hC⟩ := hi
  have cP : hv_P g = P := by unfold hv_P; rw [g0]; exact nI_clamp (by omega)
  have cB : hv_B g = B := by unfold hv_B; rw [g1]; exact nI_clamp (by omega)
  have cR : hv_R g = R := by unfold hv_R; rw [g2]; exact nI_clamp (by omega)
  have cN : hv_N g = 0 := by unfold hv_N; rw [g17]; rfl
  have cM : hv_M g = 0 := by unfold hv_M; rw [g37]; rfl
  have cW : hv_W g = 0 := by unfold hv_W; rw [e05]; rfl
  have hH : iv_H g := by
    unfold iv_H
    rw [cP, cB, cR, g0, g1, g2, f1, f2, f3]
    refine ⟨⟨rfl, hP.2, rfl⟩, ⟨rfl, fun _ => hB, rfl⟩, ⟨rfl, hR, rfl⟩, fun k hk => ?_⟩
    obtain ⟨a1, a2, a3, a4, a5⟩ := gc k hk
    obtain ⟨b1, b2, b3, b4, b5⟩ := gm k hk
    obtain ⟨o1, o2, o3, o4, o5, o6⟩ := hok k hk
    unfold iv_k hv_f hv_t hv_y hv_d
    rw [cP, a1, a2, a3, a4, a5, b1, b2, b3, b4, b5, nI_clamp (by omega), nI_clamp (by omega), nI_clamp (by omega), nI_clamp (by omega)]
    exact ⟨⟨rfl, o1, rfl⟩, ⟨rfl, o2, rfl⟩, o3, ⟨rfl, o4, o5, rfl⟩, ⟨rfl, o6, rfl⟩, Or.inl rfl, rfl⟩
  refine ⟨?_, ⟨by rw [e011, f0], ?_⟩, hH, hX hH, ?_, ⟨?_, ?_, ?_, ?_⟩, ?_, ?_, ?_⟩
  · apply fr_S hS <;> (apply E <;> first | rfl | decide)
  · rw [f44, ← hF.2]
    apply congrFun
    apply E <;> first | rfl | decide
  · refine ⟨⟨by rw [cN, g17]; rfl, by omega, by rw [f19, g17]⟩, fun p hp => by omega⟩
  · rw [cW, e05, f23]
    exact ⟨rfl, by omega, rfl⟩
  · intro x _
    by_cases hx : x < 6
    · exact w22 x hx
    · cases ho : g.2.2.1 22 x with
      | none => rfl
      | some o =>
        have q := wn 22 x o ho
        rw [hW.2.1 x (by have := hW.1.2.1; omega)] at q
        cases q
  · intro x hx; omega
  · intro p hp; omega
  · exact ⟨⟨by rw [cM, g37]; rfl, by omega, by rw [f37, g37]⟩, fun k hk => by omega⟩
  · rw [e3]; have := hC.1; omega
  · refine wf_less hC.2 (fun a ha => ?_) e3 wn
    exact E a (sc_big ha) (by omega) (by omega) (by omega) (by omega) (by omega) (by omega) (by omega) (by omega) (by omega) (by omega) (by omega) (by omega) (by omega) (by omega) (by omega)
