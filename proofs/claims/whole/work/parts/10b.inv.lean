/-! THE INVARIANT: class and reference hold the same house, points, ways, readings, sheets -/
theorem ph_ii (h : PH) (k j : Nat) (u v : Int32) : ph_i (ph_i h k j u) k j v = ph_i h k j v := by
  rw [ph_ir h k j u, ph_ri, ph_ir h k j v]
  congr 1
  funext i
  simp only [up_at]
  by_cases hi : i = j <;> simp [hi]
theorem ph_ic (h : PH) {k k2 : Nat} (hk : k ≠ k2) (j j2 : Nat) (u v : Int32) : ph_i (ph_i h k j u) k2 j2 v = ph_i (ph_i h k2 j2 v) k j u := by
  refine Prod.ext ?_ rfl
  funext a
  rw [pr_row, pr_row, pr_row, pr_row]
  by_cases h1 : a = k
  · subst h1; simp [hk]
  · by_cases h2 : a = k2
    · subst h2; simp [h1]
    · simp [h1, h2]
abbrev hv_P (h : PH) : Nat := (h.1 10 0).toNatClampNeg
abbrev hv_B (h : PH) : Nat := (h.1 10 1).toNatClampNeg
abbrev hv_R (h : PH) : Nat := (h.1 10 2).toNatClampNeg
abbrev hv_f (h : PH) (k : Nat) : Nat := (h.1 11 k).toNatClampNeg
abbrev hv_t (h : PH) (k : Nat) : Nat := (h.1 12 k).toNatClampNeg
abbrev hv_y (h : PH) (k : Nat) : Nat := (h.1 13 k).toNatClampNeg
abbrev hv_d (h : PH) (k : Nat) : Nat := (h.1 14 k).toNatClampNeg
abbrev hv_D (h : PH) (a b : Nat) : Nat := (h.1 16 (8 * a + b)).toNatClampNeg
abbrev hv_N (h : PH) : Nat := (h.1 17 0).toNatClampNeg
abbrev hv_p (h : PH) (p : Nat) : Nat := (h.1 18 p).toNatClampNeg
abbrev hv_l (h : PH) (p : Nat) : Nat := (h.1 19 p).toNatClampNeg
abbrev hv_r (h : PH) (p : Nat) : Nat := (h.1 20 p).toNatClampNeg
abbrev hv_W (h : PH) : Nat := (h.1 0 5).toNatClampNeg
abbrev hv_M (h : PH) : Nat := (h.1 37 0).toNatClampNeg
/-- sheets -/
def iv_S (h : PH) : Prop := h.1 4 = h.1 69 ∧ ∀ k, k < 4 → (h.1 2 k = -1 ∧ h.1 67 k = -1) ∨ ∃ m t : Nat, m ≤ 100 ∧ t ≤ 2 ∧ h.1 2 k = nI t ∧ h.1 68 k = nI t ∧ h.1 3 k = nI m ∧ h.1 67 k = nI m
/-- fault, trace -/
def iv_F (h : PH) : Prop := h.1 0 11 = h.1 43 0 ∧ h.1 42 0 = h.1 43 44
/-- one run, open or shut -/
def iv_k (h : PH) (k : Nat) : Prop := (h.1 11 k = nI (hv_f h k) ∧ hv_f h k < hv_P h ∧ h.1 44 k = h.1 11 k) ∧ (h.1 12 k = nI (hv_t h k) ∧ hv_t h k < hv_P h ∧ h.1 45 k = h.1 12 k) ∧ hv_f h k ≠ hv_t h k ∧ (h.1 13 k = nI (hv_y h k) ∧ 1 ≤ hv_y h k ∧ hv_y h k ≤ 9 ∧ h.1 46 k = h.1 13 k) ∧ (h.1 14 k = nI (hv_d h k) ∧ hv_d h k ≤ 9 ∧ h.1 47 k = h.1 14 k) ∧ (h.1 15 k = 0 ∨ h.1 15 k = 1) ∧ h.1 48 k = h.1 15 k
/-- the cost of a run; an open run between two places -/
abbrev hv_c (h : PH) (k : Nat) : Nat := 1000 * hv_y h k + hv_d h k
def hv_o (h : PH) (k a b : Nat) : Prop := k < hv_R h ∧ h.1 15 k = 0 ∧ ((hv_f h k = a ∧ hv_t h k = b) ∨ (hv_f h k = b ∧ hv_t h k = a))
/-- distances: what a matrix must be -/
def iv_d (P : Nat) (op : Nat → Nat → Nat → Prop) (c : Nat → Nat) (D : Nat → Nat → Nat) : Prop := (∀ a, a < P → D a a = 0) ∧ (∀ k a b x, a < P → b < P → x < P → op k a b → D a x ≤ c k + D b x) ∧ (∀ a x, a < P → x < P → a ≠ x → D a x < 1000000 → ∃ k b, b < P ∧ op k a b ∧ D a x = c k + D b x) ∧ ∀ a b, a < P → b < P → D a b < 100000 ∨ D a b = 1000000
def iv_X (h : PH) : Prop := (∀ a b, a < hv_P h → b < hv_P h → h.1 16 (8 * a + b) = nI (hv_D h a b) ∧ hv_D h a b ≤ 1000000 ∧ h.1 53 (8 * a + b) = if hv_D h a b = 1000000 then nI 10000000 else nI (hv_D h a b)) ∧ iv_d (hv_P h) (hv_o h) (hv_c h) (hv_D h)
/-- the house -/
def iv_H (h : PH) : Prop := (h.1 10 0 = nI (hv_P h) ∧ hv_P h ≤ 8 ∧ h.1 43 1 = h.1 10 0) ∧ (h.1 10 1 = nI (hv_B h) ∧ (0 < hv_P h → hv_B h < hv_P h) ∧ h.1 43 2 = h.1 10 1) ∧ (h.1 10 2 = nI (hv_R h) ∧ hv_R h ≤ 14 ∧ h.1 43 3 = h.1 10 2) ∧ ∀ k, k < hv_R h → iv_k h k
/-- points -/
def iv_P (h : PH) : Prop := (h.1 17 0 = nI (hv_N h) ∧ hv_N h ≤ 8 ∧ h.1 43 19 = h.1 17 0) ∧ ∀ p, p < hv_N h → (h.1 18 p = nI (hv_p h p) ∧ hv_p h p < hv_P h ∧ h.1 54 p = h.1 18 p) ∧ (h.1 19 p = nI (hv_l h p) ∧ 1 ≤ hv_l h p ∧ hv_l h p ≤ 20 ∧ h.1 55 p = h.1 19 p) ∧ (h.1 20 p = nI (hv_r h p) ∧ hv_r h p ≤ 5 ∧ h.1 56 p = h.1 20 p)
/-- a way that is there: its cell o, its class ci, its row a of n points -/
def iv_w (h : PH) (x o ci a n : Nat) : Prop := h.2.2.1 22 x = some o ∧ h.1 57 x = 1 ∧ ch_at h o = some (ci, a, n) ∧ 71 ≤ o ∧ 71 ≤ a ∧ ¬ h.1 o 2 = 0 ∧ h.1 o 0 = nI x ∧ h.1 59 x = h.1 o 1 ∧ (∃ f : Nat, 1 ≤ f ∧ f ≤ 99 ∧ h.1 o 1 = nI f) ∧ ((ci = 1 ∧ h.1 58 x = 0) ∨ (ci = 7 ∧ h.1 58 x = 1) ∨ (ci = 9 ∧ h.1 58 x = 2)) ∧ 1 ≤ n ∧ n ≤ 6 ∧ h.1 60 x = nI n ∧ (∀ k, k < n → ∃ p, p < hv_N h ∧ h.1 a k = nI p ∧ h.1 61 (6 * x + k) = nI p ∧ h.1 21 p = nI x) ∧ ∀ k j, k < n → j < n → h.1 a k = h.1 a j → k = j
def iv_W (h : PH) : Prop := (h.1 0 5 = nI (hv_W h) ∧ hv_W h ≤ 6 ∧ h.1 43 23 = h.1 0 5) ∧ (∀ x, hv_W h ≤ x → h.2.2.1 22 x = none) ∧ (∀ x, x < hv_W h → (h.2.2.1 22 x = none ∧ h.1 57 x = 0) ∨ ∃ o ci a n, iv_w h x o ci a n) ∧ ∀ p, p < hv_N h → h.1 21 p = -9 ∨ ∃ x o ci a n k, x < hv_W h ∧ iv_w h x o ci a n ∧ k < n ∧ h.1 a k = nI p
/-- readings -/
def iv_R (h : PH) : Prop := (h.1 37 0 = nI (hv_M h) ∧ hv_M h ≤ 12 ∧ h.1 43 37 = h.1 37 0) ∧ ∀ k, k < hv_M h → h.1 65 k = h.1 38 k ∧ h.1 66 k = h.1 39 k ∧ (∃ s : Nat, s < 2 ^ hv_N h ∧ h.1 38 k = nI s) ∧ ∃ v : Nat, v ≤ 200 ∧ h.1 39 k = nI v
/-- the cells that came behind the first ones -/
def iv_C (n : Nat) (h : PH) : Prop := h.2.2.2.length ≤ 2 * n ∧ wf_H l0_B h
def Inv (n : Nat) (h : PH) : Prop := iv_S h ∧ iv_F h ∧ iv_H h ∧ iv_X h ∧ iv_P h ∧ iv_W h ∧ iv_R h ∧ iv_C n h
/-- what both answer to one call: the same, and the invariant holds behind it -/
def op_I (n : Nat) (fc fm : PH → Option (Int32 × PH)) (h : PH) : Prop := ∃ r h1 h2, fc h = some (r, h1) ∧ fm h1 = some (r, h2) ∧ Inv (n + 1) h2
theorem iv_C_up {n : Nat} {h : PH} (hc : iv_C n h) : iv_C (n + 1) h := ⟨by have := hc.1; omega, hc.2⟩
/-- the rows that the invariant doesn't look at (0 and 43: in part) -/
def sc_b (a : Nat) : Bool := a == 0 || a == 1 || (Nat.ble 5 a && Nat.ble a 9) || (Nat.ble 22 a && Nat.ble a 36) || a == 40 || a == 41 || a == 43 || (Nat.ble 49 a && Nat.ble a 52) || (Nat.ble 62 a && Nat.ble a 64) || a == 70
theorem sc_big {a : Nat} (h : 71 ≤ a) : sc_b a = false := by
  have e : ∀ m : Nat, m < 71 → (a == m) = false := fun m hm => by simp; omega
  have e2 : ∀ m : Nat, m < 71 → Nat.ble a m = false := fun m hm => by
    cases hq : Nat.ble a m with
    | false => rfl
    | true => have := Nat.le_of_ble_eq_true hq; omega
  unfold sc_b
  rw [e 0 (by decide), e 1 (by decide), e2 9 (by decide), e2 36 (by decide), e 40 (by decide), e 41 (by decide), e 43 (by decide), e2 52 (by decide), e2 64 (by decide), e 70 (by decide)]
  simp
theorem l0_kinds : ∀ k, k < 71 → ∀ o, l0_B[k]? = some (.inr o) → ∀ kd ∈ o.2, (kd.1 = 0 ∨ kd.1 = 1) ∨ kd.2 < 71 := by
  intro k hk o ho
  have h : (l0_B.all fun y => match y with | .inl _ => true | .inr o => o.2.all fun kd => kd.1 == 0 || kd.1 == 1 || Nat.blt kd.2 71) = true := by decide +kernel
  have h2 := List.all_eq_true.mp h _ (List.mem_of_getElem? ho)
  intro kd hkd
  have h3 := List.all_eq_true.mp h2 kd hkd
  simp only [Bool.or_eq_true, beq_iff_eq] at h3
  rcases h3 with (q | q) | q
  · exact Or.inl (Or.inl q)
  · exact Or.inl (Or.inr q)
  · exact Or.inr (Nat.le_of_ble_eq_true q)
theorem wf_frame {h g : PH} (e : ∀ a, 71 ≤ a → g.1 a = h.1 a) (e2 : g.2.2 = h.2.2) (hwf : wf_H l0_B h) : wf_H l0_B g := by
  intro k y hy
  rw [e2] at hy ⊢
  have hw := hwf k y hy
  refine ⟨hw.1, fun o ho j kd hj => ?_⟩
  by_cases hk : k < 71
  · have hlen : l0_B.length = 71 := by decide +kernel
    rw [List.getElem?_append_left (by rw [hlen]; exact hk)] at hy
    rcases l0_kinds k hk o (by rw [hy, ho]) kd (List.mem_of_getElem? hj) with q | q
    · exact Or.inl q
    · exact Or.inr (Or.inr (Nat.lt_of_lt_of_le q (l0_le _)))
  · rw [e k (by omega)]
    exact hw.2 o ho j kd hj
theorem inv_frame {n : Nat} {h g : PH} (hi : Inv n h) (er : ∀ a, sc_b a = false → g.1 a = h.1 a) (e43 : ∀ j, (j = 1 ∨ j = 2 ∨ j = 3 ∨ j = 19 ∨ j = 23 ∨ j = 37 ∨ j = 44) → g.1 43 j = h.1 43 j) (e0 : g.1 0 5 = h.1 0 5) (ef : g.1 0 11 = g.1 43 0) (e2 : g.2.2 = h.2.2) : Inv (n + 1) g := by
  obtain ⟨hS, hF, hH, hX, hP, hW, hR, hC⟩ := hi
  have eb : ∀ a, 71 ≤ a → g.1 a = h.1 a := fun a ha => er a (sc_big ha)
  have ec : ∀ o, ch_at g o = ch_at h o := fun o => by unfold ch_at; rw [e2]
  have r2 := er 2 rfl; have r3 := er 3 rfl; have r4 := er 4 rfl; have r10 := er 10 rfl; have r11 := er 11 rfl; have r12 := er 12 rfl; have r13 := er 13 rfl; have r14 := er 14 rfl; have r15 := er 15 rfl; have r16 := er 16 rfl; have r17 := er 17 rfl; have r18 := er 18 rfl; have r19 := er 19 rfl; have r20 := er 20 rfl; have r21 := er 21 rfl; have r37 := er 37 rfl; have r38 := er 38 rfl; have r39 := er 39 rfl; have r42 := er 42 rfl
  have r44 := er 44 rfl; have r45 := er 45 rfl; have r46 := er 46 rfl; have r47 := er 47 rfl; have r48 := er 48 rfl; have r53 := er 53 rfl; have r54 := er 54 rfl; have r55 := er 55 rfl; have r56 := er 56 rfl; have r57 := er 57 rfl; have r58 := er 58 rfl; have r59 := er 59 rfl; have r60 := er 60 rfl; have r61 := er 61 rfl; have r65 := er 65 rfl; have r66 := er 66 rfl; have r67 := er 67 rfl; have r68 := er 68 rfl; have r69 := er 69 rfl
  have f1 := e43 1 (by simp); have f2 := e43 2 (by simp); have f3 := e43 3 (by simp); have f19 := e43 19 (by simp); have f23 := e43 23 (by simp); have f37 := e43 37 (by simp); have f44 := e43 44 (by simp)
  have hn5 : hv_N g = hv_N h := by unfold hv_N; rw [r17]
  have ew : ∀ x o ci a m, iv_w h x o ci a m → iv_w g x o ci a m := by
    intro x o ci a m hw
    unfold iv_w at hw ⊢
    have w4 := hw.2.2.2.1
    have w5 := hw.2.2.2.2.1
    rw [e2, ec, r57, r59, r58, r60, r61, r21, eb o w4, eb a w5, hn5]
    exact hw
  refine ⟨?_, ?_, ?_, ?_, ?_, ?_, ?_, ?_⟩
  · unfold iv_S
    rw [r4, r69, r2, r67, r68, r3]
    exact hS
  · exact ⟨ef, by rw [r42, f44]; exact hF.2⟩
  · unfold iv_H iv_k hv_P hv_B hv_R hv_f hv_t hv_y hv_d at hH ⊢
    rw [r10, f1, f2, f3, r11, r12, r13, r14, r15, r44, r45, r46, r47, r48]
    exact hH
  · have hop : hv_o g = hv_o h := by
      funext k a b
      unfold hv_o hv_R hv_f hv_t
      rw [r10, r11, r12, r15]
    have hcc : hv_c g = hv_c h := by
      funext k
      unfold hv_c hv_y hv_d
      rw [r13, r14]
    have hdd : hv_D g = hv_D h := by
      funext a b
      unfold hv_D
      rw [r16]
    have hpp : hv_P g = hv_P h := by unfold hv_P; rw [r10]
    unfold iv_X at hX ⊢
    rw [hop, hcc, hdd, r16, r53, hpp]
    exact hX
  · unfold iv_P hv_N hv_P hv_p hv_l hv_r at hP ⊢
    rw [r17, r10, f19, r18, r19, r20, r54, r55, r56]
    exact hP
  · have hw5 : hv_W g = hv_W h := by unfold hv_W; rw [e0]
    unfold iv_W at hW ⊢
    rw [hw5, hn5, e0, f23, e2, r57, r21]
    obtain ⟨w1, w2, w3, w4⟩ := hW
    refine ⟨w1, w2, fun x hx => ?_, fun p hp => ?_⟩
    · rcases w3 x hx with q | ⟨o, ci, a, m, q⟩
      · exact Or.inl q
      · exact Or.inr ⟨o, ci, a, m, ew x o ci a m q⟩
    · rcases w4 p hp with q | ⟨x, o, ci, a, m, k, q1, q2, q3, q4⟩
      · exact Or.inl q
      · refine Or.inr ⟨x, o, ci, a, m, k, q1, ew x o ci a m q2, q3, ?_⟩
        rw [eb a q2.2.2.2.2.1]
        exact q4
  · unfold iv_R hv_M at hR ⊢
    rw [r37, f37, hn5, r65, r66, r38, r39]
    exact hR
  · exact ⟨by rw [e2]; have := hC.1; omega, wf_frame eb e2 hC.2⟩
/-- a fault that both note -/
theorem inv_flt {n : Nat} {h : PH} (hi : Inv n h) (v : Int32) : Inv (n + 1) (ph_i (ph_i h 0 11 v) 43 0 v) := by
  refine inv_frame hi (fun a ha => ?_) (fun j hj => ?_) ?_ ?_ rfl
  · have h0 : a ≠ 0 := fun q => by subst q; cases ha
    have h43 : a ≠ 43 := fun q => by subst q; cases ha
    rw [pr_row, if_neg h43, pr_row, if_neg h0]
  · have hj0 : j ≠ 0 := by omega
    rw [pr_row, if_pos rfl, up_at, if_neg hj0, pr_row, if_neg (by decide)]
  · rw [pr_row, if_neg (by decide), pr_row, if_pos rfl, up_at, if_neg (by decide)]
  · rw [pr_row, if_neg (by decide), pr_row, if_pos rfl, up_at, if_pos rfl, pr_row, if_pos rfl, up_at, if_pos rfl]
theorem inv_up {n : Nat} {h : PH} (hi : Inv n h) : Inv (n + 1) h := inv_frame hi (fun _ _ => rfl) (fun _ _ => rfl) rfl hi.2.1.1 rfl
