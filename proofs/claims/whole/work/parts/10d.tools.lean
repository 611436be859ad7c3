/-! TOOLS: numbers as they stand in the programs -/
theorem n_3 : (3 : Int32) = nI 3 := rfl
theorem n_4 : (4 : Int32) = nI 4 := rfl
theorem n_5 : (5 : Int32) = nI 5 := rfl
theorem n_6 : (6 : Int32) = nI 6 := rfl
theorem n_7 : (7 : Int32) = nI 7 := rfl
theorem n_9 : (9 : Int32) = nI 9 := rfl
theorem n_10 : (10 : Int32) = nI 10 := rfl
theorem n_14 : (14 : Int32) = nI 14 := rfl
theorem n_20 : (20 : Int32) = nI 20 := rfl
theorem n_31 : (31 : Int32) = nI 31 := rfl
theorem n_48 : (48 : Int32) = nI 48 := rfl
theorem n_59 : (59 : Int32) = nI 59 := rfl
theorem n_70 : (70 : Int32) = nI 70 := rfl
theorem n_98 : (98 : Int32) = nI 98 := rfl
theorem n_99 : (99 : Int32) = nI 99 := rfl
theorem n_104 : (104 : Int32) = nI 104 := rfl
theorem n_200 : (200 : Int32) = nI 200 := rfl
theorem n_1000 : (1000 : Int32) = nI 1000 := rfl
theorem n_1M : (1000000 : Int32) = nI 1000000 := rfl
theorem n_10M : (10000000 : Int32) = nI 10000000 := rfl
theorem nI_mul (a b : Nat) : nI a * nI b = nI (a * b) := (Int32.ofNat_mul a b).symm
theorem nI_sub {a b : Nat} (h : b ≤ a) : nI a - nI b = nI (a - b) := by
  obtain ⟨c, rfl⟩ : ∃ c, a = b + c := ⟨a - b, by omega⟩
  rw [← nI_add, Nat.add_sub_cancel_left, Int32.add_comm (nI b), Int32.add_sub_cancel]
theorem nI_div {a b : Nat} (ha : a < 2 ^ 31) (hb : b < 2 ^ 31) : nI a / nI b = nI (a / b) := by
  have h1 : a / b ≤ a := Nat.div_le_self a b
  apply Int32.toInt_inj.mp
  rw [nI_toInt (by omega), Int32.toInt_div, nI_toInt ha, nI_toInt hb]
  rw [show ((a : Int).tdiv b) = ((a / b : Nat) : Int) from by rw [Int.ofNat_tdiv]]
  generalize a / b = c at *
  exact Int.bmod_eq_of_le (by omega) (by omega)
theorem nI_neg {k : Nat} (h : k < 2 ^ 31) : (-(nI k)).toInt = -(k : Int) := by
  rw [Int32.toInt_neg, nI_toInt h]
  exact Int.bmod_eq_of_le (by omega) (by omega)
theorem nI_ng {a k : Nat} (ha : a < 2 ^ 31) (hk : 0 < k) (hk2 : k < 2 ^ 31) : (nI a = -(nI k)) = False := by
  apply eq_false
  intro q
  have := congrArg Int32.toInt q
  rw [nI_toInt ha, nI_neg hk2] at this
  omega
theorem nI_nl {a k : Nat} (ha : a < 2 ^ 31) (hk : 0 < k) (hk2 : k < 2 ^ 31) : (nI a ≤ -(nI k)) = False := by
  apply eq_false
  rw [i_le, nI_toInt ha, nI_neg hk2]
  omega
theorem nI_nlt2 {a k : Nat} (ha : a < 2 ^ 31) (hk2 : k < 2 ^ 31) : (nI a < -(nI k)) = False := by
  apply eq_false
  rw [i_lt, nI_toInt ha, nI_neg hk2]
  omega
theorem nI_nlt3 {a k : Nat} (ha : a < 2 ^ 31) (hk : 0 < k) (hk2 : k < 2 ^ 31) : (-(nI k) < nI a) = True := by
  apply eq_true
  rw [i_lt, nI_toInt ha, nI_neg hk2]
  omega
theorem nI_nle2 {a k : Nat} (ha : a < 2 ^ 31) (hk : 0 < k) (hk2 : k < 2 ^ 31) : (nI a ≤ -(nI k)) = False := nI_nl ha hk hk2
theorem x_of {x : Int32} (h : 0 ≤ x.toInt) : ∃ j : Nat, j < 2 ^ 31 ∧ x = nI j := by
  have h1 := i_rng x
  refine ⟨x.toInt.toNat, by omega, ?_⟩
  apply Int32.toInt_inj.mp
  rw [nI_toInt (by omega)]
  omega
theorem nI_lt0 {x : Int32} (h : x.toInt < 0) : x < 0 := by
  rw [i_lt]
  exact h
theorem nI_nge0 {x : Int32} (h : x.toInt < 0) : ¬ (0 : Int32) ≤ x := by
  rw [i_le]
  have : (0 : Int32).toInt = 0 := rfl
  omega
theorem nI_ge0 {x : Int32} (h : 0 ≤ x.toInt) : (0 : Int32) ≤ x := by
  rw [i_le]
  exact h
theorem nI_nlt0 {x : Int32} (h : 0 ≤ x.toInt) : ¬ x < 0 := by
  rw [i_lt]
  have : (0 : Int32).toInt = 0 := rfl
  omega
theorem nI_j {a : Nat} (h : a < 2 ^ 31) : nI ((nI a).toNatClampNeg) = nI a := by rw [nI_clamp h]
theorem pu_sr {α β γ : Type} (b : β) (f : α → Option γ) (g : β → Option γ) : sw_b (.inr b) f g = g b := Eq.trans rfl rfl
theorem pu_sl {α β γ : Type} (a : α) (f : α → Option γ) (g : β → Option γ) : sw_b (.inl a) f g = f a := Eq.trans rfl rfl
theorem pr_ne {h : PH} {k j a : Nat} {v : Int32} (ha : a ≠ k) : (ph_i h k j v).1 a = h.1 a := by rw [pr_row, if_neg ha]
theorem pr_eq (h : PH) (k j i : Nat) (v : Int32) : (ph_i h k j v).1 k i = if i = j then v else h.1 k i := by rw [pr_row, if_pos rfl, up_at]
theorem pr_rn {h : PH} {k a : Nat} {v : Nat → Int32} (ha : a ≠ k) : (ph_r h k v).1 a = h.1 a := by rw [pr_rr, if_neg ha]
theorem pr_re (h : PH) (k : Nat) (v : Nat → Int32) : (ph_r h k v).1 k = v := by rw [pr_rr, if_pos rfl]
/-- frames of the invariant's pieces -/
theorem fr_S {h g : PH} (hs : iv_S h) (e2 : g.1 2 = h.1 2) (e3 : g.1 3 = h.1 3) (e4 : g.1 4 = h.1 4) (e67 : g.1 67 = h.1 67) (e68 : g.1 68 = h.1 68) (e69 : g.1 69 = h.1 69) : iv_S g := by
  unfold iv_S
  rw [e2, e3, e4, e67, e68, e69]
  exact hs
theorem fr_H {h g : PH} (hs : iv_H h) (e10 : g.1 10 = h.1 10) (e11 : g.1 11 = h.1 11) (e12 : g.1 12 = h.1 12) (e13 : g.1 13 = h.1 13) (e14 : g.1 14 = h.1 14) (e15 : g.1 15 = h.1 15) (e44 : g.1 44 = h.1 44) (e45 : g.1 45 = h.1 45) (e46 : g.1 46 = h.1 46) (e47 : g.1 47 = h.1 47) (e48 : g.1 48 = h.1 48) (f1 : g.1 43 1 = h.1 43 1) (f2 : g.1 43 2 = h.1 43 2) (f3 : g.1 43 3 = h.1 43 3) : iv_H g := by
  unfold iv_H iv_k hv_P hv_B hv_R hv_f hv_t hv_y hv_d at hs ⊢
  rw [e10, f1, f2, f3, e11, e12, e13, e14, e15, e44, e45, e46, e47, e48]
  exact hs
theorem fr_X {h g : PH} (hs : iv_X h) (e10 : g.1 10 0 = h.1 10 0) (e102 : g.1 10 2 = h.1 10 2) (e11 : g.1 11 = h.1 11) (e12 : g.1 12 = h.1 12) (e13 : g.1 13 = h.1 13) (e14 : g.1 14 = h.1 14) (e15 : g.1 15 = h.1 15) (e16 : g.1 16 = h.1 16) (e53 : g.1 53 = h.1 53) : iv_X g := by
  have hop : hv_o g = hv_o h := by
    funext k a b
    unfold hv_o hv_R hv_f hv_t
    rw [e102, e11, e12, e15]
  have hcc : hv_c g = hv_c h := by
    funext k
    unfold hv_c hv_y hv_d
    rw [e13, e14]
  have hdd : hv_D g = hv_D h := by
    funext a b
    unfold hv_D
    rw [e16]
  have hpp : hv_P g = hv_P h := by unfold hv_P; rw [e10]
  unfold iv_X at hs ⊢
  rw [hop, hcc, hdd, e16, e53, hpp]
  exact hs
theorem fr_P {h g : PH} (hs : iv_P h) (e10 : g.1 10 0 = h.1 10 0) (e17 : g.1 17 = h.1 17) (e18 : g.1 18 = h.1 18) (e19 : g.1 19 = h.1 19) (e20 : g.1 20 = h.1 20) (e54 : g.1 54 = h.1 54) (e55 : g.1 55 = h.1 55) (e56 : g.1 56 = h.1 56) (f19 : g.1 43 19 = h.1 43 19) : iv_P g := by
  unfold iv_P hv_N hv_P hv_p hv_l hv_r at hs ⊢
  rw [e17, e10, f19, e18, e19, e20, e54, e55, e56]
  exact hs
theorem fr_w {h g : PH} {x o ci a m : Nat} (hw : iv_w h x o ci a m) (e17 : g.1 17 0 = h.1 17 0) (e21 : g.1 21 = h.1 21) (e57 : g.1 57 = h.1 57) (e58 : g.1 58 = h.1 58) (e59 : g.1 59 = h.1 59) (e60 : g.1 60 = h.1 60) (e61 : g.1 61 = h.1 61) (eb : ∀ a, 71 ≤ a → g.1 a = h.1 a) (e2 : g.2.2 = h.2.2) : iv_w g x o ci a m := by
  have ec : ∀ o, ch_at g o = ch_at h o := fun o => by unfold ch_at; rw [e2]
  have hn5 : hv_N g = hv_N h := by unfold hv_N; rw [e17]
  unfold iv_w at hw ⊢
  have w4 := hw.2.2.2.1
  have w5 := hw.2.2.2.2.1
  rw [e2, ec, e57, e59, e58, e60, e61, e21, eb o w4, eb a w5, hn5]
  exact hw
theorem fr_W {h g : PH} (hs : iv_W h) (e0 : g.1 0 5 = h.1 0 5) (f23 : g.1 43 23 = h.1 43 23) (e17 : g.1 17 0 = h.1 17 0) (e21 : g.1 21 = h.1 21) (e57 : g.1 57 = h.1 57) (e58 : g.1 58 = h.1 58) (e59 : g.1 59 = h.1 59) (e60 : g.1 60 = h.1 60) (e61 : g.1 61 = h.1 61) (eb : ∀ a, 71 ≤ a → g.1 a = h.1 a) (e2 : g.2.2 = h.2.2) : iv_W g := by
  have hw5 : hv_W g = hv_W h := by unfold hv_W; rw [e0]
  have hn5 : hv_N g = hv_N h := by unfold hv_N; rw [e17]
  unfold iv_W at hs ⊢
  rw [hw5, hn5, e0, f23, e2, e57, e21]
  obtain ⟨w1, w2, w3, w4⟩ := hs
  refine ⟨w1, w2, fun x hx => ?_, fun p hp => ?_⟩
  · rcases w3 x hx with q | ⟨o, ci, a, m, q⟩
    · exact Or.inl q
    · exact Or.inr ⟨o, ci, a, m, fr_w q e17 e21 e57 e58 e59 e60 e61 eb e2⟩
  · rcases w4 p hp with q | ⟨x, o, ci, a, m, k, q1, q2, q3, q4⟩
    · exact Or.inl q
    · refine Or.inr ⟨x, o, ci, a, m, k, q1, fr_w q2 e17 e21 e57 e58 e59 e60 e61 eb e2, q3, ?_⟩
      rw [eb a q2.2.2.2.2.1]
      exact q4
theorem fr_R {h g : PH} (hs : iv_R h) (e17 : g.1 17 0 = h.1 17 0) (e37 : g.1 37 0 = h.1 37 0) (e38 : g.1 38 = h.1 38) (e39 : g.1 39 = h.1 39) (e65 : g.1 65 = h.1 65) (e66 : g.1 66 = h.1 66) (f37 : g.1 43 37 = h.1 43 37) : iv_R g := by
  have hn5 : hv_N g = hv_N h := by unfold hv_N; rw [e17]
  unfold iv_R hv_M at hs ⊢
  rw [e37, f37, hn5, e65, e66, e38, e39]
  exact hs
theorem fr_C {n : Nat} {h g : PH} (hs : iv_C n h) (eb : ∀ a, 71 ≤ a → g.1 a = h.1 a) (e2 : g.2.2 = h.2.2) : iv_C (n + 1) g := ⟨by rw [e2]; have := hs.1; omega, wf_frame eb e2 hs.2⟩
/-- rows from 71 on stay behind writes of lower ones -/
theorem big_i {h g : PH} {k j : Nat} {v : Int32} (hk : k < 71) (e : ∀ a, 71 ≤ a → h.1 a = g.1 a) : ∀ a, 71 ≤ a → (ph_i h k j v).1 a = g.1 a := by
  intro a ha
  rw [pr_row, if_neg (by omega)]
  exact e a ha
theorem big_r {h g : PH} {k : Nat} {v : Nat → Int32} (hk : k < 71) (e : ∀ a, 71 ≤ a → h.1 a = g.1 a) : ∀ a, 71 ≤ a → (ph_r h k v).1 a = g.1 a := by
  intro a ha
  rw [pr_rr, if_neg (by omega)]
  exact e a ha
