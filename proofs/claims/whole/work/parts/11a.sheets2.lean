theorem neg1_lt : ((-1 : Int32) < 0) := by decide
theorem neg1_nle : ¬ ((0 : Int32) ≤ -1) := by decide
theorem nI_nn {m : Nat} (h : m < 2 ^ 31) : (0 : Int32) ≤ nI m := nI_pos' h
theorem nI_n1 {m : Nat} (h : m < 2 ^ 31) : ¬ nI m = -1 := by
  intro q
  have := congrArg Int32.toInt q
  rw [nI_toInt h] at this
  have h2 : (-1 : Int32).toInt = -1 := rfl
  omega
theorem sh_in {x : Int32} (hs : 0 ≤ x.toInt ∧ x.toInt < 4) : ∃ k : Nat, k < 4 ∧ x = nI k := ix_of hs.1 (by have := hs.2; omega) (by decide)
theorem o_lose {n : Nat} {h : PH} (hi : Inv n h) (x : Int32) : ∃ r h1 h2, f_X11_lose x h = some (r, h1) ∧ f_X12_lose x h1 = some (r, h2) ∧ Inv (n + 1) h2 := by
  by_cases hs : 0 ≤ x.toInt ∧ x.toInt < 4
  · obtain ⟨k, hk, rfl⟩ := sh_in hs
    have hc : (nI k).toNatClampNeg = k := nI_clamp (by omega)
    rcases hi.1.2 k hk with ⟨q1, q2⟩ | ⟨m, t, hm, ht, q1, q2, q3, q4⟩
    · refine ⟨0, h, ph_i h 67 k (-1), ?_, ?_, ?_⟩
      · simp [f_X11_lose, s_isSheet, hs, pu_b1, f_X8_hasNothing, pu_gn hk, hc, q1]
      · simp [f_X12_lose, m_noSheet, hs, pu_b1, pu_lt, pu_gn hk, hc, q2, neg1_nle]
      · refine inv_sheet hi (fun a ha h2 h3 h4 h5 h6 h7 => by rw [pr_row, if_neg h5]) ?_ (fun j hj => rfl) rfl hi.2.1.1 rfl
        have e : (ph_i h 67 k (-1)).1 67 = h.1 67 := by
          rw [pr_row, if_pos rfl]
          funext i
          rw [up_at]
          by_cases hik : i = k
          · rw [if_pos hik, hik, q2]
          · rw [if_neg hik]
        refine ⟨hi.1.1, fun j hj => ?_⟩
        rw [e]
        exact hi.1.2 j hj
    · refine ⟨1, ph_i h 2 k (-1), ph_i (ph_i h 2 k (-1)) 67 k (-1), ?_, ?_, ?_⟩
      · simp [f_X11_lose, s_isSheet, hs, pu_b1, pu_lt, f_X8_hasNothing, pu_gn hk, hc, q1, nI_n1 (show t < 2 ^ 31 by omega)]
      · simp [f_X12_lose, m_noSheet, hs, pu_b1, pu_lt, pu_gn hk, hc, pr_row, q4, nI_nn (show m < 2 ^ 31 by omega)]
      · refine inv_sheet hi (fun a ha h2 h3 h4 h5 h6 h7 => by rw [pr_row, if_neg h5, pr_row, if_neg h2]) ?_ (fun j hj => rfl) rfl hi.2.1.1 rfl
        refine ⟨hi.1.1, fun j hj => ?_⟩
        simp only [pr_row, up_at]
        by_cases hjk : j = k
        · subst hjk; left; simp
        · simp [hjk]
          simpa using hi.1.2 j hj
  · refine ⟨-1, h, h, ?_, ?_, inv_up hi⟩
    · simp [f_X11_lose, s_isSheet, hs, pu_b1]
    · simp [f_X12_lose, m_noSheet, hs, pu_b1]
