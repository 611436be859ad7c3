theorem l_lf2 {g : PH} : lp_f (fun s => lb_X12_layFar_2 s.1 s.2) fu_l (0, g) = some (nI 64, ph_r g 53 (mt (g.1 53) (M0 10000000))) := by
  have h0 : ((0 : Int32), g) = (fun i => (nI i, ph_r g 53 (wr (g.1 53) (M0 10000000) i))) 0 := by
    show _ = (nI 0, ph_r g 53 (wr (g.1 53) (M0 10000000) 0))
    rw [wr_0, ph_rid]
    rfl
  rw [h0]
  refine lp_cnt (fun i => (nI i, ph_r g 53 (wr (g.1 53) (M0 10000000) i))) 64 _ (fun i hi => ?_) ?_ fu_l 0 (by omega) (by unfold fu_l; omega)
  · have e := wr_s (g.1 53) (M0 10000000) i
    show lb_X12_layFar_2 (nI i) (ph_r g 53 _) = some (.inl (nI (i + 1), ph_r g 53 _))
    unfold lb_X12_layFar_2
    have e9 : nI i - nI i / 9 * 9 = nI (i - i / 9 * 9) := by
      show nI i - nI i / nI 9 * nI 9 = _
      rw [nI_div (by omega) (by omega), nI_mul, nI_sub (by omega)]
    rw [if_neg (show ¬ (64 : Int32) ≤ nI i from nI_ge hi (by decide)), e9, pu_gn hi (by decide), nI_clamp (by omega), ← nI_succ, ph_ri, ph_ri, pu_gn hi (by decide)]
    by_cases h9 : i / 8 = i % 8
    · have h10 : i - i / 9 * 9 = 0 := by omega
      have e2 : M0 10000000 (i / 8) (i % 8) = 0 := by unfold M0; rw [if_pos h9]
      rw [e2] at e
      rw [h10, if_pos (show nI 0 = 0 from rfl), pu_lt, pu_lt, ← e]
      rfl
    · have h10 : ¬ i - i / 9 * 9 = 0 := by omega
      have e2 : M0 10000000 (i / 8) (i % 8) = 10000000 := by unfold M0; rw [if_neg h9]
      rw [e2] at e
      rw [if_neg (nI_ne0 (by omega) (by omega)), pu_lt, pu_lt, ← e]
      rfl
  · unfold lb_X12_layFar_2
    dsimp only
    rw [if_pos (show (64 : Int32) ≤ nI 64 by decide)]
theorem m_lesser {a b : Nat} (ha : a < 2 ^ 31) (hb : b < 2 ^ 31) (h : PH) : f_X12_lesser (nI a) (nI b) h = some (nI (min a b)) := by
  unfold f_X12_lesser
  by_cases hq : b ≤ a
  · rw [if_pos (nI_le hq ha), Nat.min_eq_right hq]
  · rw [if_neg (nI_ge (by omega) hb), Nat.min_eq_left (by omega)]
theorem mt_up2 {f : Nat → Int32} {M : Nat → Nat → Nat} {a b v : Nat} (ha : a < 8) (hb : b < 8) : upd (mt f M) (8 * a + b) (nI v) = mt f (mup M a b v) := by
  rw [Nat.mul_comm]
  exact mt_up ha hb
theorem mt_at2 {f : Nat → Int32} {M : Nat → Nat → Nat} {a b : Nat} (ha : a < 8) (hb : b < 8) : mt f M (8 * a + b) = nI (M a b) := by
  rw [Nat.mul_comm]
  exact mt_at ha hb
theorem l_lf55 {g : PH} {P R : Nat} {f t y d : Nat → Nat} (hg : hr_m g P R f t y d) {F : Nat → Int32} {A : Nat → Nat → Nat} (x1 : Int32) {k : Nat} (hk : k < R) (hop : g.1 48 k = 0) (hA : ∀ x y, A x y ≤ 10000000) : lp_f (fun s => lb_X12_layFar_55 x1 (nI k) s.1 s.2) fu_l (0, ph_r g 53 (mt F A)) = some (nI P, ph_r g 53 (mt F (rc (f k) (t k) (1000 * y k + d k) A P))) := by
  obtain ⟨h1, h2, h3, h4, h5⟩ := hg
  obtain ⟨k1, k2, k3, k4, k5, k6, k7, k8, k9⟩ := h5 k hk
  refine lp_cnt (fun i => (nI i, ph_r g 53 (mt F (rc (f k) (t k) (1000 * y k + d k) A i)))) P _ (fun i hi => ?_) ?_ fu_l 0 (by omega) (by unfold fu_l; omega)
  · have k14 : k < 14 := by omega
    have hck : (nI k).toNatClampNeg = k := nI_clamp (by omega)
    obtain ⟨B, hB⟩ : ∃ B, B = rc (f k) (t k) (1000 * y k + d k) A i := ⟨_, rfl⟩
    have bB : ∀ x y, B x y ≤ 10000000 := fun x y' => by rw [hB]; exact Nat.le_trans (rc_le _ _ _ _ _ _ _) (hA x y')
    have e : rc (f k) (t k) (1000 * y k + d k) A (i + 1) = rst B (f k) (t k) (1000 * y k + d k) i := by rw [hB]; rfl
    show lb_X12_layFar_55 x1 (nI k) (nI i) (ph_r g 53 (mt F (rc (f k) (t k) (1000 * y k + d k) A i))) = some (.inl (nI (i + 1), ph_r g 53 (mt F (rc (f k) (t k) (1000 * y k + d k) A (i + 1)))))
    rw [e, ← hB]
    have cost : ∀ X, f_X12_costOf (nI k) (ph_r g 53 X) = some (nI (1000 * y k + d k)) := by
      intro X
      unfold f_X12_costOf
      rw [pu_gn k14 (by decide), pu_gn k14 (by decide), hck, pr_rn (by decide), pr_rn (by decide), k3, k4]
      show some (nI 1000 * nI (y k) + nI (d k)) = _
      rw [nI_mul, nI_add]
    have ix : ∀ a, 8 * nI a + nI i = nI (8 * a + i) := by
      intro a
      show nI 8 * nI a + nI i = _
      rw [nI_mul, nI_add]
    have b1 := bB (f k) i
    have b2 := bB (t k) i
    have i8 : i < 8 := by omega
    have f8 : f k < 8 := by omega
    have t8 : t k < 8 := by omega
    have ff : 8 * f k + i < 64 := by omega
    have tt : 8 * t k + i < 64 := by omega
    have hcf : (nI (8 * f k + i)).toNatClampNeg = 8 * f k + i := nI_clamp (by omega)
    have hct : (nI (8 * t k + i)).toNatClampNeg = 8 * t k + i := nI_clamp (by omega)
    have c1 : sh B (f k) i (B (t k) i + (1000 * y k + d k)) (f k) i ≤ 10000000 := Nat.le_trans (sh_le _ _ _ _ _ _) b1
    have c2 : sh B (f k) i (B (t k) i + (1000 * y k + d k)) (t k) i ≤ 10000000 := Nat.le_trans (sh_le _ _ _ _ _ _) b2
    unfold lb_X12_layFar_55
    rw [pr_rn (by decide), h1, if_neg (nI_ge hi (by omega)), pu_gn k14 (by decide), hck, pr_rn (by decide), hop, if_pos (show (0 : Int32) = 0 from rfl), pu_gn k14 (by decide), pr_rn (by decide), k1, ix, pu_lt, pu_gn k14 (by decide), pr_rn (by decide), k2, ix, pu_lt, pu_gn ff (by decide), pu_gn tt (by decide), cost, pu_b1, hcf, hct, pr_re, mt_at2 f8 i8, mt_at2 t8 i8, nI_add, m_lesser (by omega) (by omega), pu_b1, pu_gn ff (by decide), pu_lt, ph_ri, mt_up2 f8 i8]
    show ga_i (nI (8 * t k + i)) 64 (ga_i (nI (8 * f k + i)) 64 (bd_1 (f_X12_costOf (nI k) (ph_r g 53 (mt F (sh B (f k) i (B (t k) i + (1000 * y k + d k)))))) _)) = _
    rw [pu_gn tt (by decide), pu_gn ff (by decide), cost, pu_b1]
    show bd_1 (f_X12_lesser ((ph_r g 53 (mt F (sh B (f k) i (B (t k) i + (1000 * y k + d k))))).1 53 (8 * t k + i)) ((ph_r g 53 (mt F (sh B (f k) i (B (t k) i + (1000 * y k + d k))))).1 53 (8 * f k + i) + nI (1000 * y k + d k)) _) _ = _
    rw [pr_re, mt_at2 f8 i8, mt_at2 t8 i8, nI_add, m_lesser (by omega) (by omega), pu_b1, pu_gn tt (by decide), pu_lt]
    show lt_b _ _ = _
    rw [pu_lt, ← nI_succ]
    show some (Sum.inl (nI (i + 1), ph_i (ph_r g 53 (mt F (sh B (f k) i (B (t k) i + (1000 * y k + d k))))) 53 (8 * t k + i) _)) = _
    rw [ph_ri, mt_up2 t8 i8]
    rfl
  · unfold lb_X12_layFar_55
    dsimp only
    rw [pr_rn (by decide), h1, if_pos (nI_le (Nat.le_refl _) (by omega))]
theorem l_lf55s {g : PH} {P R : Nat} {f t y d : Nat → Nat} (hg : hr_m g P R f t y d) {X : Nat → Int32} (x1 : Int32) {k : Nat} (hk : k < R) (hop : ¬ g.1 48 k = 0) : lp_f (fun s => lb_X12_layFar_55 x1 (nI k) s.1 s.2) fu_l (0, ph_r g 53 X) = some (0, ph_r g 53 X) := by
  obtain ⟨h1, h2, h3, h4, h5⟩ := hg
  have k14 : k < 14 := by omega
  have hck : (nI k).toNatClampNeg = k := nI_clamp (by omega)
  refine lp_r ?_
  show lb_X12_layFar_55 x1 (nI k) 0 (ph_r g 53 X) = _
  unfold lb_X12_layFar_55
  rw [pr_rn (by decide), pr_rn (by decide), hck, if_neg hop, pu_gn k14 (by decide)]
  by_cases h : g.1 43 1 ≤ 0
  · rw [if_pos h]
  · rw [if_neg h]
theorem l_lf45 {g : PH} {P R : Nat} {f t y d : Nat → Nat} (hg : hr_m g P R f t y d) {F : Nat → Int32} {A : Nat → Nat → Nat} (x1 : Int32) (hA : ∀ x y, A x y ≤ 10000000) : lp_f (fun s => lb_X12_layFar_45 x1 s.1 s.2) fu_l (0, ph_r g 53 (mt F A)) = some (nI R, ph_r g 53 (mt F (rk P f t (fun k => 1000 * y k + d k) (fun k => g.1 48 k == 0) A R))) := by
  have hg' := hg
  obtain ⟨h1, h2, h3, h4, h5⟩ := hg
  refine lp_cnt (fun i => (nI i, ph_r g 53 (mt F (rk P f t (fun k => 1000 * y k + d k) (fun k => g.1 48 k == 0) A i)))) R _ (fun i hi => ?_) ?_ fu_l 0 (by omega) (by unfold fu_l; omega)
  · have bB : ∀ u w, rk P f t (fun k => 1000 * y k + d k) (fun k => g.1 48 k == 0) A i u w ≤ 10000000 := fun u w => Nat.le_trans (rk_le _ _ _ _ _ _ _ _ _) (hA u w)
    show lb_X12_layFar_45 x1 (nI i) (ph_r g 53 _) = some (.inl (nI (i + 1), ph_r g 53 (mt F (if (g.1 48 i == 0) = true then _ else _))))
    unfold lb_X12_layFar_45
    rw [pr_rn (by decide), h2, if_neg (nI_ge hi (by omega))]
    by_cases ho : g.1 48 i = 0
    · have ho2 : (g.1 48 i == 0) = true := by rw [ho]; rfl
      rw [if_pos ho2, l_lf55 hg' x1 hi ho bB, pu_b1, pu_lt, ← nI_succ]
    · have ho2 : ¬ (g.1 48 i == 0) = true := by simp [ho]
      rw [if_neg ho2, l_lf55s hg' x1 hi ho, pu_b1, pu_lt, ← nI_succ]
  · unfold lb_X12_layFar_45
    dsimp only
    rw [pr_rn (by decide), h2, if_pos (nI_le (Nat.le_refl _) (by omega))]
theorem m_layFar {g : PH} {P R : Nat} {f t y d : Nat → Nat} (hg : hr_m g P R f t y d) : f_X12_layFar g = some ((), ph_r g 53 (mt (g.1 53) (rr P R f t (fun k => 1000 * y k + d k) (fun k => g.1 48 k == 0) (P - 1)))) := by
  have hg' := hg
  obtain ⟨h1, h2, h3, h4, h5⟩ := hg
  have hf : ∀ k, k < R → f k < P ∧ t k < P := fun k hk => ⟨(h5 k hk).2.2.2.2.1, (h5 k hk).2.2.2.2.2.1⟩
  unfold f_X12_layFar
  rw [l_lf2, pu_b1]
  have e : lp_f (fun s => lb_X12_layFar_35 s.1 s.2) fu_l (1, ph_r g 53 (mt (g.1 53) (M0 10000000))) = some (nI (1 + (P - 1)), ph_r g 53 (mt (g.1 53) (rr P R f t (fun k => 1000 * y k + d k) (fun k => g.1 48 k == 0) (P - 1)))) := by
    refine lp_cnt (fun i => (nI (1 + i), ph_r g 53 (mt (g.1 53) (rr P R f t (fun k => 1000 * y k + d k) (fun k => g.1 48 k == 0) i)))) (P - 1) _ (fun i hi => ?_) ?_ fu_l 0 (by omega) (by unfold fu_l; omega)
    · obtain ⟨s1, _⟩ := rr_sd (c := fun k => 1000 * y k + d k) (o := fun k => g.1 48 k == 0) hf i
      show lb_X12_layFar_35 (nI (1 + i)) (ph_r g 53 _) = some (.inl (nI (1 + (i + 1)), ph_r g 53 _))
      unfold lb_X12_layFar_35
      rw [pr_rn (by decide), h1, if_neg (nI_ge (show 1 + i < P by omega) (by omega)), l_lf45 hg' _ (fun x y => (s1 x y).2), pu_b1, pu_lt, ← nI_succ]
      rfl
    · unfold lb_X12_layFar_35
      dsimp only
      rw [pr_rn (by decide), h1, if_pos (nI_le (by omega) (by omega))]
  rw [e, pu_b1]
