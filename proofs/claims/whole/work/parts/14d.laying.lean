theorem pr_n (h : PH) (N : Nat) (y : Ly) (b : Nat) : (ph_n h N y).1 b = if b = N then (fun _ => 0) else h.1 b := rfl
def ciK (kd : Nat) : Nat := if kd = 0 then 1 else if kd = 1 then 7 else 9
/-- the heap behind a new way -/
def lw_A (g : PH) (N0 m sp : Nat) : PH := ph_r (ph_n g N0 (.inl (0, m))) N0 (va_cpy ((ph_n g N0 (.inl (0, m))).1 4) ((ph_n g N0 (.inl (0, m))).1 N0) sp 0 m)
def lw_B (g : PH) (N0 m sp kd W : Nat) (fu : Int32) : PH := ph_w (ph_i (ph_i (ph_i (ph_n (lw_A g N0 m sp) (N0 + 1) (.inr (ciK kd, [(0, 0), (0, 0), (2, N0)]))) (N0 + 1) 0 (nI W)) (N0 + 1) 1 fu) (N0 + 1) 2 1) 22 W (some (N0 + 1))
def lw_C (g : PH) (N0 m sp kd W : Nat) (fu : Int32) (pt : Nat → Nat) : PH := ph_i (ph_r (lw_B g N0 m sp kd W fu) 21 (ow (g.1 21) pt (nI W) m)) 0 5 (nI (W + 1))
theorem lwA_row {g : PH} {N0 m sp b : Nat} (hb : b ≠ N0) : (lw_A g N0 m sp).1 b = g.1 b := by
  unfold lw_A
  rw [pr_rr, if_neg hb, pr_n, if_neg hb]
theorem lwA_new {g : PH} {N0 m sp j : Nat} (hN : 71 ≤ N0) (hj : j < m) : (lw_A g N0 m sp).1 N0 j = g.1 4 (sp + j) := by
  unfold lw_A
  rw [pr_rr, if_pos rfl]
  unfold va_cpy
  rw [if_pos (by omega), pr_n, if_neg (by omega), Nat.sub_zero]
theorem lwB_row {g : PH} {N0 m sp kd W b : Nat} {fu : Int32} (hb : b ≠ N0) (hb2 : b ≠ N0 + 1) : (lw_B g N0 m sp kd W fu).1 b = g.1 b := by
  unfold lw_B
  rw [pr_w1, pr_row, if_neg hb2, pr_row, if_neg hb2, pr_row, if_neg hb2, pr_n, if_neg hb2, lwA_row hb]
theorem lwB_N0 {g : PH} {N0 m sp kd W : Nat} {fu : Int32} : (lw_B g N0 m sp kd W fu).1 N0 = (lw_A g N0 m sp).1 N0 := by
  unfold lw_B
  rw [pr_w1, pr_row, if_neg (by omega), pr_row, if_neg (by omega), pr_row, if_neg (by omega), pr_n, if_neg (by omega)]
theorem lwB_N1 {g : PH} {N0 m sp kd W : Nat} {fu : Int32} : (lw_B g N0 m sp kd W fu).1 (N0 + 1) 0 = nI W ∧ (lw_B g N0 m sp kd W fu).1 (N0 + 1) 1 = fu ∧ (lw_B g N0 m sp kd W fu).1 (N0 + 1) 2 = 1 := by
  unfold lw_B
  rw [pr_w1, pr_row, if_pos rfl, pr_row, if_pos rfl, pr_row, if_pos rfl]
  exact ⟨rfl, rfl, rfl⟩
theorem s_layWay {g : PH} {kd W m sp N N0 : Nat} (fu : Int32) (pt : Nat → Nat) (hkd : kd < 3) (hm : m ≤ 6) (hsp : sp + m ≤ 400) (hW : W < 6) (h5 : g.1 0 5 = nI W) (h17 : g.1 17 0 = nI N) (hN : N ≤ 8) (hpt : ∀ j, j < m → pt j < N ∧ g.1 4 (sp + j) = nI (pt j)) (hN0 : (l0_B ++ g.2.2.2).length = N0) (hN1 : N0 < 900000) (hN2 : 71 ≤ N0) : f_X11_layWay (nI kd) fu (nI sp) (nI m) g = some (nI W, lw_C g N0 m sp kd W fu pt) := by
  have hcm : (nI m).toNatClampNeg = m := nI_clamp (by omega)
  have hcs : (nI sp).toNatClampNeg = sp := nI_clamp (by omega)
  have hcW : (nI W).toNatClampNeg = W := nI_clamp (by omega)
  have c0 : (0 : Int32).toNatClampNeg = 0 := rfl
  have A : ∀ (β : Type) (K : Option β), gn_y (nI m) 6 K = K := by
    intro β K
    unfold gn_y
    rw [if_neg (by rw [hcm]; intro q; rcases q with q | q; exact nI_pos (by omega) q; omega)]
  have B : ∀ (β : Type) (K : Option β), gs_y N0 K = K := by
    intro β K
    unfold gs_y
    rw [if_pos hN1]
  have C : ∀ (β : Type) (K : Option β), gc_y (nI sp) 0 (nI m) 400 m K = K := by
    intro β K
    unfold gc_y
    rw [if_pos ⟨nI_pos (by omega), by decide, nI_pos (by omega), by rw [hcs, hcm]; omega, by rw [c0, hcm]; omega⟩]
  have own : f_X6_own N0 m (nI W) (lw_B g N0 m sp kd W fu) = some ((), ph_r (lw_B g N0 m sp kd W fu) 21 (ow (g.1 21) pt (nI W) m)) := by
    have h21 : (lw_B g N0 m sp kd W fu).1 21 = g.1 21 := lwB_row (by omega) (by omega)
    have := l_own (h := lw_B g N0 m sp kd W fu) (a := N0) (m := m) (N := N) (nI W) pt (fun j hj => ⟨(hpt j hj).1, by rw [lwB_N0, lwA_new hN2 hj]; exact (hpt j hj).2⟩) (by rw [lwB_row (by omega) (by omega)]; exact h17) hN hN2 hm
    rw [h21] at this
    exact this
  have h5a : (lw_A g N0 m sp).1 0 5 = nI W := by rw [lwA_row (by omega)]; exact h5
  have h5b : (ph_r (lw_B g N0 m sp kd W fu) 21 (ow (g.1 21) pt (nI W) m)).1 0 5 + 1 = nI (W + 1) := by
    rw [pr_rr, if_neg (by decide), lwB_row (by omega) (by omega), h5, nI_succ]
  unfold f_X11_layWay
  rw [A]
  simp only [pu_lt, hN0, B, hcm, hcs, c0, C]
  have eA : ph_r (ph_n g N0 (.inl (0, m))) N0 (va_cpy ((ph_n g N0 (.inl (0, m))).1 4) ((ph_n g N0 (.inl (0, m))).1 N0) sp 0 m) = lw_A g N0 m sp := rfl
  rw [eA, h5a]
  simp only [hcW, pu_gn hW]
  rw [pu_gn hW (by decide), pu_gn hW (by decide), pu_gn hW (by decide)]
  have hk : kd = 0 ∨ kd = 1 ∨ kd = 2 := by omega
  rcases hk with rfl | rfl | rfl
  · rw [if_pos (show nI 0 = 0 from rfl)]
    show bd_2 (f_X6_own N0 m (nI W) (lw_B g N0 m sp 0 W fu)) _ = _
    rw [own, pu_b2, h5b]
    rfl
  · rw [if_neg (show ¬ nI 1 = 0 by decide), if_pos (show nI 1 = 1 from rfl)]
    show bd_2 (f_X6_own N0 m (nI W) (lw_B g N0 m sp 1 W fu)) _ = _
    rw [own, pu_b2, h5b]
    rfl
  · rw [if_neg (show ¬ nI 2 = 0 by decide), if_neg (show ¬ nI 2 = 1 by decide)]
    show bd_2 (f_X6_own N0 m (nI W) (lw_B g N0 m sp 2 W fu)) _ = _
    rw [own, pu_b2, h5b]
    rfl
theorem lwC_wf {g : PH} {kd W m sp N0 : Nat} (fu : Int32) (pt : Nat → Nat) (hwf : wf_H l0_B g) (hN0 : (l0_B ++ g.2.2.2).length = N0) (hN2 : 71 ≤ N0) : wf_H l0_B (lw_C g N0 m sp kd W fu pt) := by
  have w1 : wf_H l0_B (ph_n g N0 (.inl (0, m))) := wf_n hN0 (fun o ho => by cases ho) hwf
  have l1 : (l0_B ++ (ph_n g N0 (.inl (0, m))).2.2.2).length = N0 + 1 := by
    show (l0_B ++ (g.2.2.2 ++ [Sum.inl (0, m)])).length = N0 + 1
    rw [← List.append_assoc, List.length_append, hN0]
    rfl
  have g1 : (l0_B ++ (ph_n g N0 (.inl (0, m))).2.2.2)[N0]? = some (.inl (0, m)) := by
    show (l0_B ++ (g.2.2.2 ++ [Sum.inl (0, m)]))[N0]? = _
    rw [← List.append_assoc, List.getElem?_append_right (by omega), hN0, Nat.sub_self]
    rfl
  have w2 : wf_H l0_B (lw_A g N0 m sp) := wf_r g1 w1
  have l2 : (l0_B ++ (lw_A g N0 m sp).2.2.2).length = N0 + 1 := l1
  have w3 : wf_H l0_B (ph_n (lw_A g N0 m sp) (N0 + 1) (.inr (ciK kd, [(0, 0), (0, 0), (2, N0)]))) := wf_n l2 (fun o ho => by
    injection ho with ho
    subst ho
    intro kd2 hk2
    simp only [List.mem_cons, List.not_mem_nil, or_false] at hk2
    rcases hk2 with rfl | rfl | rfl <;> simp) w2
  have l3 : (l0_B ++ (ph_n (lw_A g N0 m sp) (N0 + 1) (.inr (ciK kd, [(0, 0), (0, 0), (2, N0)]))).2.2.2).length = N0 + 2 := by
    show (l0_B ++ ((lw_A g N0 m sp).2.2.2 ++ [Sum.inr (ciK kd, [(0, 0), (0, 0), (2, N0)])])).length = N0 + 2
    rw [← List.append_assoc, List.length_append, l2]
    rfl
  have g3 : (l0_B ++ (ph_n (lw_A g N0 m sp) (N0 + 1) (.inr (ciK kd, [(0, 0), (0, 0), (2, N0)]))).2.2.2)[N0 + 1]? = some (.inr (ciK kd, [(0, 0), (0, 0), (2, N0)])) := by
    show (l0_B ++ ((lw_A g N0 m sp).2.2.2 ++ [Sum.inr (ciK kd, [(0, 0), (0, 0), (2, N0)])]))[N0 + 1]? = _
    rw [← List.append_assoc, List.getElem?_append_right (by omega), l2, Nat.sub_self]
    rfl
  have w4 : wf_H l0_B (ph_i (ph_n (lw_A g N0 m sp) (N0 + 1) (.inr (ciK kd, [(0, 0), (0, 0), (2, N0)]))) (N0 + 1) 0 (nI W)) := wf_i g3 (Or.inr ⟨_, (0, 0), rfl, rfl, Or.inl (Or.inl rfl)⟩) w3
  have w5 : wf_H l0_B (ph_i (ph_i (ph_n (lw_A g N0 m sp) (N0 + 1) (.inr (ciK kd, [(0, 0), (0, 0), (2, N0)]))) (N0 + 1) 0 (nI W)) (N0 + 1) 1 fu) := wf_i g3 (Or.inr ⟨_, (0, 0), rfl, rfl, Or.inl (Or.inl rfl)⟩) w4
  have w6 : wf_H l0_B (ph_i (ph_i (ph_i (ph_n (lw_A g N0 m sp) (N0 + 1) (.inr (ciK kd, [(0, 0), (0, 0), (2, N0)]))) (N0 + 1) 0 (nI W)) (N0 + 1) 1 fu) (N0 + 1) 2 1) := wf_i g3 (Or.inr ⟨_, (2, N0), rfl, rfl, Or.inr (by
    show N0 < (l0_B ++ (ph_n (lw_A g N0 m sp) (N0 + 1) (.inr (ciK kd, [(0, 0), (0, 0), (2, N0)]))).2.2.2).length
    omega)⟩) w5
  have w7 : wf_H l0_B (lw_B g N0 m sp kd W fu) := wf_w (fun o ho => by
    injection ho with ho
    subst ho
    show N0 + 1 < (l0_B ++ (ph_n (lw_A g N0 m sp) (N0 + 1) (.inr (ciK kd, [(0, 0), (0, 0), (2, N0)]))).2.2.2).length
    omega) w6
  refine wf_frame (h := lw_B g N0 m sp kd W fu) (fun a ha => ?_) rfl w7
  unfold lw_C
  rw [pr_row, if_neg (by omega), pr_rr, if_neg (by omega)]
/-- ways of before are where they were -/
theorem ch_app {h g : PH} {o : Nat} {q : Nat × Nat × Nat} {L : List Ly} (hq : ch_at h o = some q) (e : g.2.2.2 = h.2.2.2 ++ L) : ch_at g o = some q := by
  obtain ⟨c1, c2, c3⟩ := ch_e hq
  have d2 : (l0_B ++ g.2.2.2)[o]? = some (.inr (q.1, [(0, 0), (0, 0), (2, q.2.1)])) := by
    rw [e, ← List.append_assoc, List.getElem?_append_left (by
      obtain ⟨hl, _⟩ := List.getElem?_eq_some_iff.mp c2
      exact hl)]
    exact c2
  have d3 : (l0_B ++ g.2.2.2)[q.2.1]? = some (.inl (0, q.2.2)) := by
    rw [e, ← List.append_assoc, List.getElem?_append_left (by
      obtain ⟨hl, _⟩ := List.getElem?_eq_some_iff.mp c3
      exact hl)]
    exact c3
  unfold ch_at
  rw [d2]
  simp only [c1, and_self, if_true, d3]
theorem ch_lt {h : PH} {o ci a m : Nat} (hq : ch_at h o = some (ci, a, m)) : o < (l0_B ++ h.2.2.2).length ∧ a < (l0_B ++ h.2.2.2).length := by
  obtain ⟨c1, c2, c3⟩ := ch_e hq
  obtain ⟨h1, _⟩ := List.getElem?_eq_some_iff.mp c2
  obtain ⟨h2, _⟩ := List.getElem?_eq_some_iff.mp c3
  exact ⟨h1, h2⟩
theorem lwC_ch {g g2 : PH} {kd W m sp N0 : Nat} (fu : Int32) (pt : Nat → Nat) (hN0 : (l0_B ++ g.2.2.2).length = N0) (hkd : kd < 3) (e : g2.2.2.2 = (lw_C g N0 m sp kd W fu pt).2.2.2) : ch_at g2 (N0 + 1) = some (ciK kd, N0, m) := by
  have e2 : l0_B ++ g2.2.2.2 = (l0_B ++ g.2.2.2) ++ [Sum.inl (0, m), Sum.inr (ciK kd, [(0, 0), (0, 0), (2, N0)])] := by
    rw [e]
    show l0_B ++ ((g.2.2.2 ++ [Sum.inl (0, m)]) ++ [Sum.inr (ciK kd, [(0, 0), (0, 0), (2, N0)])]) = _
    simp [List.append_assoc]
  have d2 : (l0_B ++ g2.2.2.2)[N0 + 1]? = some (.inr (ciK kd, [(0, 0), (0, 0), (2, N0)])) := by
    rw [e2, List.getElem?_append_right (by omega), hN0, Nat.add_sub_cancel_left]
    rfl
  have d3 : (l0_B ++ g2.2.2.2)[N0]? = some (.inl (0, m)) := by
    rw [e2, List.getElem?_append_right (by omega), hN0, Nat.sub_self]
    rfl
  have hk : kd = 0 ∨ kd = 1 ∨ kd = 2 := by omega
  have hci : ciK kd = 1 ∨ ciK kd = 7 ∨ ciK kd = 9 := by
    rcases hk with rfl | rfl | rfl
    · exact Or.inl rfl
    · exact Or.inr (Or.inl rfl)
    · exact Or.inr (Or.inr rfl)
  unfold ch_at
  rw [d2]
  simp only [hci, and_self, if_true, d3]
