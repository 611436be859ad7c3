/-! PIECES of a way: cable, drills -/
def su (f : Nat → Nat) : Nat → Nat
  | 0 => 0
  | n + 1 => su f n + f n
theorem su_le {f : Nat → Nat} {m : Nat} : ∀ n, (∀ i, i < n → f i ≤ m) → su f n ≤ m * n
  | 0, _ => Nat.zero_le _
  | n + 1, h => by
    have ih := su_le (f := f) (m := m) n (fun i hi => h i (by omega))
    have := h n (by omega)
    unfold su
    rw [Nat.mul_add, Nat.mul_one]
    omega
theorem su_mono (f : Nat → Nat) : ∀ (n k : Nat), k ≤ n → su f k ≤ su f n
  | 0, k, h => by
    have : k = 0 := by omega
    subst this; exact Nat.le_refl _
  | n + 1, k, h => by
    by_cases hk : k = n + 1
    · subst hk; exact Nat.le_refl _
    · have := su_mono f n k (by omega)
      show su f k ≤ su f n + f n
      omega
theorem su_lin (f g : Nat → Nat) (c : Nat) : ∀ n, su (fun k => f k + c * g k) n = su f n + c * su g n
  | 0 => rfl
  | n + 1 => by
    have ih := su_lin f g c n
    unfold su
    rw [ih, Nat.mul_add]
    omega
/-- the ends of pieces -/
def cor (B m : Nat) (pl pt : Nat → Nat) (k : Nat) : Nat := if k = 0 ∨ m < k then B else pl (pt (k - 1))
/-- a way as both see it, and its pieces' lengths -/
def wv (h : PH) (x o ci a m kd : Nat) (pt : Nat → Nat) : Prop := (x < 6 ∧ ¬ h.1 o 2 = 0 ∧ ((ci = 1 ∧ kd = 0) ∨ (ci = 7 ∧ kd = 1) ∨ (ci = 9 ∧ kd = 2)) ∧ kd < 3) ∧ (h.1 58 x = nI kd ∧ h.1 60 x = nI m ∧ 1 ≤ m ∧ m ≤ 6) ∧ (∀ j, j < m → pt j < hv_N h ∧ h.1 a j = nI (pt j) ∧ h.1 61 (6 * x + j) = nI (pt j)) ∧ h.1 59 x = h.1 o 1 ∧ ∃ f : Nat, 1 ≤ f ∧ f ≤ 99 ∧ h.1 o 1 = nI f
abbrev cr (h : PH) (m : Nat) (pt : Nat → Nat) (k : Nat) : Nat := cor (hv_B h) m (hv_p h) pt k
abbrev dd (h : PH) (m : Nat) (pt : Nat → Nat) (k : Nat) : Nat := hv_D h (cr h m pt k) (cr h m pt (k + 1))
theorem wv_of {h : PH} {x o ci a m : Nat} (hx : x < 6) (hw : iv_w h x o ci a m) : ∃ kd pt, wv h x o ci a m kd pt := by
  obtain ⟨kd, k1, k2, k3⟩ := w_kind hw
  obtain ⟨pt, hpt⟩ := w_pts hw
  obtain ⟨q1, q2, q3, q4, q5, q6, q7, q8, q9, q10, q11, q12, q13, q14, q15⟩ := hw
  exact ⟨kd, pt, ⟨hx, q6, k3, k1⟩, ⟨k2, q13, q11, q12⟩, fun j hj => ⟨(hpt j hj).1, (hpt j hj).2.1, (hpt j hj).2.2.1⟩, q8, q9⟩
section WV
variable {h : PH} {x o ci a m kd : Nat} {pt : Nat → Nat}
theorem cr_lt (hH : iv_H h) (hP : iv_P h) (hw : wv h x o ci a m kd pt) (k : Nat) : cr h m pt k < hv_P h := by
  have h1 := (hw.2.2.1 0 (by have := hw.2.1.2.2.1; omega)).1
  have h2 := (hP.2 _ h1).1.2.1
  unfold cr cor
  by_cases hk : k = 0 ∨ m < k
  · rw [if_pos hk]
    exact hH.2.1.2.1 (by omega)
  · rw [if_neg hk]
    exact (hP.2 _ (hw.2.2.1 (k - 1) (by omega)).1).1.2.1
theorem dd_le (hH : iv_H h) (hX : iv_X h) (hP : iv_P h) (hw : wv h x o ci a m kd pt) (k : Nat) : dd h m pt k < 100000 ∨ dd h m pt k = 1000000 := d_le hX (cr_lt hH hP hw k) (cr_lt hH hP hw (k + 1))
theorem s_end (hH : iv_H h) (hP : iv_P h) (hw : wv h x o ci a m kd pt) {k : Nat} (hk : k ≤ m + 1) : f_X1_endOf ci a m o (nI k) h = some (nI (cr h m pt k)) := by
  obtain ⟨⟨w1, w2, w3, w4⟩, ⟨w5, w6, w7, w8⟩, w9, _⟩ := hw
  have hN := hP.1.2.1
  unfold f_X1_endOf cr cor
  by_cases h0 : k = 0
  · subst h0
    rw [if_pos (show nI 0 < 1 by decide), if_pos (Or.inl rfl), hH.2.1.1]
  · rw [if_neg (show ¬ nI k < 1 from nI_nlt (b := 1) (by omega) (by omega)), pu_gz w2]
    by_cases h1 : m < k
    · rw [if_pos (show Int32.ofNat m < nI k from nI_lt h1 (by omega)), if_pos (Or.inr h1), hH.2.1.1]
    · obtain ⟨j, rfl⟩ : ∃ j, k = j + 1 := ⟨k - 1, by omega⟩
      have hj := w9 j (by omega)
      rw [if_neg (show ¬ Int32.ofNat m < nI (j + 1) from nI_nlt (by omega) (by omega)), pu_gz w2, if_neg (by omega), nI_pred, pu_gn (show j < m by omega) (by omega), nI_clamp (by omega), hj.2.1, pu_gn (show pt j < 8 by omega) (by decide), nI_clamp (by omega), (hP.2 _ hj.1).1.1, Nat.add_sub_cancel]
theorem s_yf (hH : iv_H h) (hX : iv_X h) {c e : Nat} (hc : c < hv_P h) (he : e < hv_P h) : f_X3_yardsFrom (nI c) (nI e) h = some (nI (if hv_D h c e = 1000000 then 1000000 else hv_D h c e / 1000)) := by
  have hP8 := hH.1.2.1
  have hd := d_le hX hc he
  unfold f_X3_yardsFrom
  rw [x8, pu_gn (show 8 * c + e < 64 by omega) (by decide), nI_clamp (by omega), d_16 hX hc he, pu_lt]
  by_cases hq : hv_D h c e = 1000000
  · rw [hq, if_pos (by decide), if_pos rfl]
    rfl
  · rw [if_neg (show ¬ (1000000 : Int32) ≤ nI (hv_D h c e) from nI_ge (b := 1000000) (by omega) (by decide)), if_neg hq]
    show some (nI _ / nI 1000) = _
    rw [nI_div (by omega) (by decide)]
theorem s_yo (hH : iv_H h) (hX : iv_X h) (hP : iv_P h) (hw : wv h x o ci a m kd pt) {k : Nat} (hk : k ≤ m) : f_X1_yardsOf ci a m o (nI k) h = some (nI (if dd h m pt k = 1000000 then 1000000 else dd h m pt k / 1000)) := by
  unfold f_X1_yardsOf
  rw [s_end hH hP hw (by omega), pu_b1, ← nI_succ, s_end hH hP hw (by omega), pu_b1, s_yf hH hX (cr_lt hH hP hw k) (cr_lt hH hP hw (k + 1)), pu_b1]
theorem s_df (hH : iv_H h) (hX : iv_X h) {c e : Nat} (hc : c < hv_P h) (he : e < hv_P h) : f_X3_drilledFrom (nI c) (nI e) h = some (nI (hv_D h c e % 1000)) := by
  have hP8 := hH.1.2.1
  have hd := d_le hX hc he
  unfold f_X3_drilledFrom
  rw [x8, pu_gn (show 8 * c + e < 64 by omega) (by decide), nI_clamp (by omega), d_16 hX hc he]
  show some (nI _ - nI _ / nI 1000 * nI 1000) = _
  rw [nI_div (by omega) (by decide), nI_mul, nI_sub (by omega)]
  congr 2
  omega
/-- all pieces are there -/
def okb (h : PH) (m kd : Nat) (pt : Nat → Nat) : Bool := decide (∀ k, k < pcs kd m → dd h m pt k < 1000000)
theorem okb_t : okb h m kd pt = true ↔ ∀ k, k < pcs kd m → dd h m pt k < 1000000 := by
  unfold okb
  exact decide_eq_true_iff
theorem pcs_le (kd m : Nat) : pcs kd m ≤ m + 1 := by
  unfold pcs
  split <;> omega
abbrev ya (h : PH) (m : Nat) (pt : Nat → Nat) : Nat → Nat := fun k => dd h m pt k / 1000
abbrev da (h : PH) (m : Nat) (pt : Nat → Nat) : Nat → Nat := fun k => dd h m pt k % 1000
theorem s_laid (hH : iv_H h) (hX : iv_X h) (hP : iv_P h) (hw : wv h x o ci a m kd pt) : f_X1_canBeLaid ci a m o h = some (if okb h m kd pt then 1 else 0) := by
  have hp := pcs_le kd m
  have w2 := hw.1.2.1
  have w3 := hw.1.2.2.1
  have w8 := hw.2.1.2.2.2
  have hL : ∃ r, lp_f (fun s => lb_X1_canBeLaid_2 ci a m o h s) fu_l 0 = some r ∧ ((okb h m kd pt = false ∧ r = .inl 0) ∨ (okb h m kd pt = true ∧ ∃ y, r = .inr y)) := by
    refine lp_0 (fun i s => s = nI i ∧ ∀ k, k < i → dd h m pt k < 1000000) _ (pcs kd m) (by omega) ?_ ?_ 0 ⟨rfl, fun k hk => by omega⟩
    · rintro i s hi ⟨rfl, e⟩
      have hd := dd_le hH hX hP hw i
      have e0 : lb_X1_canBeLaid_2 ci a m o h (nI i) = if nI (if dd h m pt i = 1000000 then 1000000 else dd h m pt i / 1000) < 1000000 then some (.inl (nI (i + 1))) else some (.inr (.inl 0)) := by
        unfold lb_X1_canBeLaid_2
        rw [s_pieces w2 w3, pu_b1, if_neg (nI_ge hi (by omega)), s_yo hH hX hP hw (by omega), pu_b1, pu_lt, ← nI_succ]
      by_cases hq : dd h m pt i = 1000000
      · right
        refine ⟨.inl 0, ?_, Or.inl ⟨?_, rfl⟩⟩
        · show lb_X1_canBeLaid_2 ci a m o h (nI i) = _
          rw [e0, if_pos hq, if_neg (by decide)]
        · cases hz : okb h m kd pt with
          | false => rfl
          | true => have := okb_t.mp hz i hi; omega
      · left
        refine ⟨nI (i + 1), ?_, rfl, fun k hk => ?_⟩
        · show lb_X1_canBeLaid_2 ci a m o h (nI i) = _
          rw [e0, if_neg hq, if_pos (show nI (dd h m pt i / 1000) < 1000000 from nI_lt (b := 1000000) (by omega) (by decide))]
        · by_cases hki : k = i
          · subst hki; omega
          · exact e k (by omega)
    · rintro s ⟨rfl, e⟩
      refine ⟨.inr (nI (pcs kd m)), ?_, Or.inr ⟨okb_t.mpr e, _, rfl⟩⟩
      show lb_X1_canBeLaid_2 ci a m o h (nI (pcs kd m)) = _
      unfold lb_X1_canBeLaid_2
      rw [s_pieces w2 w3, pu_b1, if_pos (nI_le (Nat.le_refl _) (by omega))]
  obtain ⟨r, r1, r2⟩ := hL
  unfold f_X1_canBeLaid
  rw [r1, pu_b1]
  rcases r2 with ⟨q, rfl⟩ | ⟨q, y, rfl⟩
  · rw [q]; rfl
  · rw [q]; rfl
theorem s_ally (hH : iv_H h) (hX : iv_X h) (hP : iv_P h) (hw : wv h x o ci a m kd pt) (hok : okb h m kd pt = true) : f_X1_allYards ci a m o h = some (nI (su (ya h m pt) (pcs kd m))) := by
  have hp := pcs_le kd m
  have w2 := hw.1.2.1
  have w3 := hw.1.2.2.1
  have w8 := hw.2.1.2.2.2
  have hL : lp_f (fun s => lb_X1_allYards_5 ci a m o h s.1 s.2) fu_l (0, 0) = some (nI (su (ya h m pt) (pcs kd m)), nI (pcs kd m)) := by
    refine lp_cnt (fun i => (nI (su (ya h m pt) i), nI i)) (pcs kd m) _ (fun i hi => ?_) ?_ fu_l 0 (by omega) (by unfold fu_l; omega)
    · show lb_X1_allYards_5 ci a m o h (nI (su (ya h m pt) i)) (nI i) = _
      have hq := okb_t.mp hok i hi
      unfold lb_X1_allYards_5
      rw [s_pieces w2 w3, pu_b1, if_neg (nI_ge hi (by omega)), s_yo hH hX hP hw (by omega), pu_b1, if_neg (by omega), nI_add, pu_lt, pu_lt, ← nI_succ]
      rfl
    · show lb_X1_allYards_5 ci a m o h (nI (su (ya h m pt) (pcs kd m))) (nI (pcs kd m)) = _
      unfold lb_X1_allYards_5
      rw [s_pieces w2 w3, pu_b1, if_pos (nI_le (Nat.le_refl _) (by omega))]
  unfold f_X1_allYards
  rw [hL, pu_b1]
theorem s_alld (hH : iv_H h) (hX : iv_X h) (hP : iv_P h) (hw : wv h x o ci a m kd pt) : f_X1_allDrilled ci a m o h = some (nI (su (da h m pt) (pcs kd m))) := by
  have hp := pcs_le kd m
  have w2 := hw.1.2.1
  have w3 := hw.1.2.2.1
  have w8 := hw.2.1.2.2.2
  have hL : lp_f (fun s => lb_X1_allDrilled_5 ci a m o h s.1 s.2) fu_l (0, 0) = some (nI (su (da h m pt) (pcs kd m)), nI (pcs kd m)) := by
    refine lp_cnt (fun i => (nI (su (da h m pt) i), nI i)) (pcs kd m) _ (fun i hi => ?_) ?_ fu_l 0 (by omega) (by unfold fu_l; omega)
    · show lb_X1_allDrilled_5 ci a m o h (nI (su (da h m pt) i)) (nI i) = _
      unfold lb_X1_allDrilled_5
      rw [s_pieces w2 w3, pu_b1, if_neg (nI_ge hi (by omega)), s_end hH hP hw (by omega), pu_b1, ← nI_succ, s_end hH hP hw (by omega), pu_b1, s_df hH hX (cr_lt hH hP hw i) (cr_lt hH hP hw (i + 1)), pu_b1, nI_add, pu_lt, pu_lt]
      rfl
    · show lb_X1_allDrilled_5 ci a m o h (nI (su (da h m pt) (pcs kd m))) (nI (pcs kd m)) = _
      unfold lb_X1_allDrilled_5
      rw [s_pieces w2 w3, pu_b1, if_pos (nI_le (Nat.le_refl _) (by omega))]
  unfold f_X1_allDrilled
  rw [hL, pu_b1]
theorem m_cor (hH : iv_H h) (hP : iv_P h) (hw : wv h x o ci a m kd pt) {k : Nat} (hk : k ≤ m + 1) : f_X12_cornerOf (nI x) (nI k) h = some (nI (cr h m pt k)) := by
  obtain ⟨⟨w1, w2, w3, w4⟩, ⟨w5, w6, w7, w8⟩, w9, _⟩ := hw
  have hN := hP.1.2.1
  have bb : h.1 43 2 = nI (hv_B h) := by rw [hH.2.1.2.2]; exact hH.2.1.1
  have hc : (nI x).toNatClampNeg = x := nI_clamp (by omega)
  unfold f_X12_cornerOf cr cor
  by_cases h0 : k = 0
  · subst h0
    rw [if_pos (show nI 0 = 0 from rfl), if_pos (Or.inl rfl), bb]
  · rw [if_neg (nI_ne0 (by omega) (by omega)), pu_gn w1 (by decide), hc, w6]
    by_cases h1 : m < k
    · rw [if_neg (nI_ge h1 (by omega)), if_pos (Or.inr h1), bb]
    · obtain ⟨j, rfl⟩ : ∃ j, k = j + 1 := ⟨k - 1, by omega⟩
      have hj := w9 j (by omega)
      have e1 : 6 * nI x + nI (j + 1) - 1 = nI (6 * x + j) := by
        show nI 6 * nI x + nI (j + 1) - 1 = _
        rw [nI_mul, nI_add, ← Nat.add_assoc, nI_pred]
      rw [if_pos (nI_le (by omega) (by omega)), if_neg (by omega), e1, pu_gn (show 6 * x + j < 36 by omega) (by decide), nI_clamp (by omega), hj.2.2, pu_gn (show pt j < 8 by omega) (by decide), nI_clamp (by omega), (hP.2 _ hj.1).1.2.2, (hP.2 _ hj.1).1.1, Nat.add_sub_cancel]
theorem m_pf (hH : iv_H h) (hX : iv_X h) (hP : iv_P h) (hw : wv h x o ci a m kd pt) {k : Nat} (hk : k ≤ m) : f_X12_pieceFar (nI x) (nI k) h = some (nI (if dd h m pt k = 1000000 then 10000000 else dd h m pt k)) := by
  have hP8 := hH.1.2.1
  have c1 := cr_lt hH hP hw k
  have c2 := cr_lt hH hP hw (k + 1)
  unfold f_X12_pieceFar
  rw [m_cor hH hP hw (by omega), pu_b1, ← nI_succ, m_cor hH hP hw (by omega), pu_b1, x8', pu_gn (show 8 * cr h m pt k + cr h m pt (k + 1) < 64 by omega) (by decide), nI_clamp (by omega), d_53 hX c1 c2]
theorem m_cab (hH : iv_H h) (hX : iv_X h) (hP : iv_P h) (hw : wv h x o ci a m kd pt) : f_X12_cableOf (nI x) h = some (if okb h m kd pt then lN (su (ya h m pt) (pcs kd m) + 1000000 * su (da h m pt) (pcs kd m)) else -1) := by
  have hp := pcs_le kd m
  have w1 := hw.1.1
  have w4 := hw.1.2.2.2
  have w5 := hw.2.1.1
  have w6 := hw.2.1.2.1
  have w8 := hw.2.1.2.2.2
  have hL : ∃ r, lp_f (fun s => lb_X12_cableOf_5 (nI x) h s.1 s.2) fu_l (0, 0) = some r ∧ ((okb h m kd pt = false ∧ r = .inl (-1)) ∨ (okb h m kd pt = true ∧ r = .inr (lN (su (ya h m pt) (pcs kd m) + 1000000 * su (da h m pt) (pcs kd m)), nI (pcs kd m)))) := by
    refine lp_0 (fun i s => s = (lN (su (ya h m pt) i + 1000000 * su (da h m pt) i), nI i) ∧ ∀ k, k < i → dd h m pt k < 1000000) _ (pcs kd m) (by omega) ?_ ?_ (0, 0) ⟨rfl, fun k hk => by omega⟩
    · rintro i s hi ⟨rfl, e⟩
      have hd := dd_le hH hX hP hw i
      have pf := m_pf hH hX hP hw (k := i) (by omega)
      by_cases hq : dd h m pt i = 1000000
      · right
        rw [if_pos hq] at pf
        refine ⟨.inl (-1), ?_, Or.inl ⟨?_, rfl⟩⟩
        · show lb_X12_cableOf_5 (nI x) h _ (nI i) = _
          unfold lb_X12_cableOf_5
          rw [m_pieces w1 w4 w5 w6, pu_b1, if_neg (nI_ge hi (by omega)), pf, pu_b1, if_neg (by decide)]
        · cases hz : okb h m kd pt with
          | false => rfl
          | true => have := okb_t.mp hz i hi; omega
      · left
        rw [if_neg hq] at pf
        refine ⟨(lN (su (ya h m pt) (i + 1) + 1000000 * su (da h m pt) (i + 1)), nI (i + 1)), ?_, rfl, fun k hk => ?_⟩
        · show lb_X12_cableOf_5 (nI x) h _ (nI i) = _
          unfold lb_X12_cableOf_5
          have e1 : nI (dd h m pt i) / 1000 = nI (dd h m pt i / 1000) := nI_div (b := 1000) (by omega) (by decide)
          have e2 : nI (dd h m pt i) - nI (dd h m pt i / 1000) * 1000 = nI (dd h m pt i % 1000) := by
            show _ - nI _ * nI 1000 = _
            rw [nI_mul, nI_sub (by omega)]
            congr 1
            omega
          rw [m_pieces w1 w4 w5 w6, pu_b1, if_neg (nI_ge hi (by omega)), pf, pu_b1, if_pos (show nI (dd h m pt i) < 10000000 from nI_lt (b := 10000000) (by omega) (by decide)), pu_b1, pu_b1, e1, e2, nI_l (by omega), nI_l (by omega), show (1000000 : Int64) = lN 1000000 from rfl, lN_mul, lN_add, lN_add, pu_lt, pu_lt, ← nI_succ]
          show some (Sum.inl (lN (_ + (dd h m pt i / 1000 + 1000000 * (dd h m pt i % 1000))), _)) = some (Sum.inl (lN (su (ya h m pt) i + dd h m pt i / 1000 + 1000000 * (su (da h m pt) i + dd h m pt i % 1000)), _))
          congr 4
          omega
        · by_cases hki : k = i
          · subst hki; omega
          · exact e k (by omega)
    · rintro s ⟨rfl, e⟩
      refine ⟨.inr (lN (su (ya h m pt) (pcs kd m) + 1000000 * su (da h m pt) (pcs kd m)), nI (pcs kd m)), ?_, Or.inr ⟨okb_t.mpr e, rfl⟩⟩
      show lb_X12_cableOf_5 (nI x) h _ (nI (pcs kd m)) = _
      unfold lb_X12_cableOf_5
      rw [m_pieces w1 w4 w5 w6, pu_b1, if_pos (nI_le (Nat.le_refl _) (by omega))]
  obtain ⟨r, r1, r2⟩ := hL
  unfold f_X12_cableOf
  rw [r1, pu_b1]
  rcases r2 with ⟨q, rfl⟩ | ⟨q, rfl⟩
  · rw [q]; rfl
  · rw [q]; rfl
theorem ya_le (hH : iv_H h) (hX : iv_X h) (hP : iv_P h) (hw : wv h x o ci a m kd pt) (hok : okb h m kd pt = true) {k : Nat} (hk : k < pcs kd m) : ya h m pt k ≤ 99 := by
  have h1 := okb_t.mp hok k hk
  have h2 := dd_le hH hX hP hw k
  show dd h m pt k / 1000 ≤ 99
  omega
theorem sy_le (hH : iv_H h) (hX : iv_X h) (hP : iv_P h) (hw : wv h x o ci a m kd pt) (hok : okb h m kd pt = true) : su (ya h m pt) (pcs kd m) ≤ 693 := by
  have hp := pcs_le kd m
  have w8 := hw.2.1.2.2.2
  have h1 := su_le (f := ya h m pt) (m := 99) (pcs kd m) (fun k hk => ya_le hH hX hP hw hok hk)
  omega
theorem sd_le (hw : wv h x o ci a m kd pt) : su (da h m pt) (pcs kd m) ≤ 6993 := by
  have hp := pcs_le kd m
  have w8 := hw.2.1.2.2.2
  have h1 := su_le (f := da h m pt) (m := 999) (pcs kd m) (fun k hk => by show dd h m pt k % 1000 ≤ 999; omega)
  omega
end WV
theorem lg_nn (a : Nat) (h : a < 2 ^ 63) : (0 : Int32) ≤ lg_cmp (lN a) 0 := by
  rw [lg_cmp_ge, l_le, pk_lT h]
  show (0 : Int) ≤ (a : Int)
  omega
theorem s_str {g : PH} {o ci a m kd : Nat} (hk : (ci = 1 ∧ kd = 0) ∨ (ci = 7 ∧ kd = 1) ∨ (ci = 9 ∧ kd = 2)) : vd_strands ci a m o g = some (nI (if kd = 2 then 2 else 1)) := by
  rcases hk with ⟨rfl, rfl⟩ | ⟨rfl, rfl⟩ | ⟨rfl, rfl⟩ <;> rfl
theorem o_cable {n : Nat} {h : PH} (hi : Inv n h) (x y : Int32) : ∃ r, f_X11_cable x y h = some r ∧ f_X12_cable x y h = some r := by
  obtain ⟨hS, hF, hH, hX, hP, hW, hR, hC⟩ := hi
  have z0 : (0 : Int64).toInt = 0 := rfl
  have z1 : (1 : Int64).toInt = 1 := rfl
  have y1 : (1 : Int32).toInt = 1 := rfl
  rcases wy hW x with ⟨w1, w2⟩ | ⟨k, o, ci, a, m, rfl, hk, hk6, hw, w1, w2⟩
  · exact ⟨-1, by simp [f_X11_cable, w1 h rfl rfl, pu_b1, mo_b], by simp [f_X12_cable, w2 h rfl rfl, pu_b1]⟩
  · obtain ⟨kd, pt, hv⟩ := wv_of hk6 hw
    have q3 := hw.2.2.1
    by_cases hy : 0 ≤ y.toInt ∧ y.toInt ≤ 1
    · have c1 : f_X11_cable (nI k) y h = bd_1 (f_X1_canBeLaid ci a m o h) fun r_5 => if r_5 = 0 then some (-3) else (if y = 0 then (bd_1 (vd_strands ci a m o h) fun r_7 => bd_1 (f_X1_allYards ci a m o h) fun r_8 => some (r_7 * r_8)) else (bd_1 (f_X1_allDrilled ci a m o h) fun r_6 => some r_6)) := by
        unfold f_X11_cable
        rw [w1 h rfl rfl, pu_b1]
        simp only [mo_b]
        rw [q3, pu_b1, if_neg (nI_nlt0 hy.1), if_pos (show y ≤ 1 by rw [i_le]; omega)]
      have c2 : f_X12_cable (nI k) y h = bd_1 (f_X12_cableOf (nI k) h) fun r_3 => if 0 ≤ (lg_cmp r_3 0) then (if y = 1 then some ((r_3 / 1000000).toInt32) else (ga_i (nI k) 6 (if (h.1 58 (nI k).toNatClampNeg) = 2 then some (((r_3 - r_3 / 1000000 * 1000000).toInt32) * 2) else some (((r_3 - r_3 / 1000000 * 1000000).toInt32) * 1)))) else some (-3) := by
        unfold f_X12_cable
        rw [w2 h rfl rfl, pu_b1, if_pos rfl, f_ini, if_pos (by omega), pu_b1, if_neg (by decide)]
      rw [c1, c2, s_laid hH hX hP hv, m_cab hH hX hP hv, pu_b1, pu_b1]
      cases hok : okb h m kd pt with
      | false => exact ⟨-3, by rfl, by rfl⟩
      | true =>
        have hy1 := sy_le hH hX hP hv hok
        have hd1 := sd_le hv
        rw [if_pos rfl, if_pos rfl, if_neg (by decide), if_pos (lg_nn _ (by omega)), s_ally hH hX hP hv hok, s_alld hH hX hP hv, s_str hv.1.2.2.1, pu_b1, pu_b1, pu_b1, show (1000000 : Int64) = lN 1000000 from rfl, pk_lRem (by omega) (by omega) (by omega), pk_lDiv (by omega) (by omega) (by omega), lN_i, lN_i, pu_gn hk6 (by decide), nI_clamp (by omega), hv.2.1.1]
        have e1 : (su (ya h m pt) (pcs kd m) + 1000000 * su (da h m pt) (pcs kd m)) % 1000000 = su (ya h m pt) (pcs kd m) := by omega
        have e2 : (su (ya h m pt) (pcs kd m) + 1000000 * su (da h m pt) (pcs kd m)) / 1000000 = su (da h m pt) (pcs kd m) := by omega
        rw [e1, e2]
        by_cases y0 : y = 0
        · refine ⟨nI (if kd = 2 then 2 else 1) * nI (su (ya h m pt) (pcs kd m)), by rw [if_pos y0], ?_⟩
          rw [if_neg (by rw [y0]; decide)]
          by_cases k2 : kd = 2
          · rw [if_pos (by rw [k2]; rfl), if_pos k2, show (2 : Int32) = nI 2 from rfl, nI_mul, nI_mul, Nat.mul_comm]
          · have : ¬ nI kd = 2 := fun q => k2 (nI_inj (show nI kd = nI 2 from q) (by have := hv.1.2.2.2; omega) (by decide))
            rw [if_neg this, if_neg k2, show (1 : Int32) = nI 1 from rfl, nI_mul, nI_mul, Nat.mul_comm]
        · have y1 : y = 1 := by
            rw [i_eq, y1]
            have : ¬ y.toInt = 0 := fun q => y0 (by rw [i_eq, q]; rfl)
            omega
          exact ⟨nI (su (da h m pt) (pcs kd m)), by rw [if_neg y0], by rw [if_pos y1]⟩
    · refine ⟨-2, ?_, ?_⟩
      · unfold f_X11_cable
        rw [w1 h rfl rfl, pu_b1]
        simp only [mo_b]
        rw [q3, pu_b1]
        by_cases h0 : 0 ≤ y.toInt
        · rw [if_neg (nI_nlt0 h0), if_neg (show ¬ y ≤ 1 by rw [i_le]; omega)]
        · rw [if_pos (nI_lt0 (by omega))]
      · unfold f_X12_cable
        rw [w2 h rfl rfl, pu_b1, if_pos rfl, f_ini, if_neg (by omega), pu_b1, if_pos rfl]
