def wr (f : Nat → Int32) (M : Nat → Nat → Nat) (t : Nat) : Nat → Int32 := fun i => if i < t then nI (M (i / 8) (i % 8)) else f i
abbrev mt (f : Nat → Int32) (M : Nat → Nat → Nat) : Nat → Int32 := wr f M 64
theorem wr_0 (f : Nat → Int32) (M : Nat → Nat → Nat) : wr f M 0 = f := by
  funext i
  unfold wr
  rw [if_neg (by omega)]
theorem wr_s (f : Nat → Int32) (M : Nat → Nat → Nat) (t : Nat) : upd (wr f M t) t (nI (M (t / 8) (t % 8))) = wr f M (t + 1) := by
  funext i
  rw [up_at]
  unfold wr
  by_cases h : i = t
  · rw [if_pos h, if_pos (by omega), h]
  · rw [if_neg h]
    by_cases h2 : i < t
    · rw [if_pos h2, if_pos (by omega)]
    · rw [if_neg h2, if_neg (by omega)]
theorem mt_at {f : Nat → Int32} {M : Nat → Nat → Nat} {a b : Nat} (ha : a < 8) (hb : b < 8) : mt f M (a * 8 + b) = nI (M a b) := by
  unfold mt wr
  rw [if_pos (by omega), show (a * 8 + b) / 8 = a by omega, show (a * 8 + b) % 8 = b by omega]
theorem mt_up {f : Nat → Int32} {M : Nat → Nat → Nat} {a b v : Nat} (ha : a < 8) (hb : b < 8) : upd (mt f M) (a * 8 + b) (nI v) = mt f (mup M a b v) := by
  funext i
  rw [up_at]
  unfold mt wr mup
  by_cases h : i = a * 8 + b
  · rw [if_pos h, if_pos (by omega), if_pos (by omega)]
  · rw [if_neg h]
    by_cases h2 : i < 64
    · rw [if_pos h2, if_pos h2, if_neg (by omega)]
    · rw [if_neg h2, if_neg h2]
theorem s_shorten {g : PH} {f : Nat → Int32} {M : Nat → Nat → Nat} {a b v : Nat} (ha : a < 8) (hb : b < 8) (hM : M a b < 2 ^ 31) (hv : v < 2 ^ 31) : f_X3_shorten (nI a) (nI b) (nI v) (ph_r g 16 (mt f M)) = some ((), ph_r g 16 (mt f (sh M a b v))) := by
  unfold f_X3_shorten sh
  simp (disch := omega) only [pu_lt, pu_b1, pu_b2, pu_gn, n_0, n_1, n_2, n_3, n_4, n_5, n_6, n_7, n_8, n_9, n_10, n_14, n_20, n_31, n_48, n_59, n_70, n_98, n_99, n_100, n_104, n_200, n_1000, n_1M, n_10M, nI_add, nI_sub, nI_mul, nI_div, nI_clamp, nI_leI, nI_ltI, nI_eq, nI_ng, nI_nl, nI_nlt2, nI_nlt3, and_self, and_true, true_and, and_false, false_and, or_true, true_or, or_false, false_or, if_true, if_false, ↓reduceIte, not_true_eq_false, not_false_eq_true, reduceCtorEq, pr_re, mt_at ha hb, ph_ri, mt_up ha hb]
  by_cases h : M a b ≤ v
  · rw [if_pos h, mup_id (by omega)]
  · rw [if_neg h, Nat.min_eq_right (by omega)]
theorem l_rk10 {g : PH} {f : Nat → Int32} {a : Nat} (ha : a < 8) : lp_f (fun s => lb_X3_reckon_10 (nI a) s.1 s.2) fu_l (nI 0, ph_r g 16 (wr f (M0 1000000) (a * 8))) = some (nI 8, ph_r g 16 (wr f (M0 1000000) (a * 8 + 8))) := by
  refine lp_cnt (fun i => (nI i, ph_r g 16 (wr f (M0 1000000) (a * 8 + i)))) 8 _ (fun i hi => ?_) ?_ fu_l 0 (by omega) (by unfold fu_l; omega)
  · have h1 : ¬ 8 ≤ i := by omega
    have e := wr_s f (M0 1000000) (a * 8 + i)
    rw [show (a * 8 + i) / 8 = a by omega, show (a * 8 + i) % 8 = i by omega] at e
    unfold lb_X3_reckon_10
    by_cases hai : a = i
    · have e2 : M0 1000000 a i = 0 := by unfold M0; rw [if_pos hai]
      rw [e2] at e
      simp (disch := omega) only [pu_lt, pu_b1, pu_b2, pu_gn, n_0, n_1, n_2, n_3, n_4, n_5, n_6, n_7, n_8, n_9, n_10, n_14, n_20, n_31, n_48, n_59, n_70, n_98, n_99, n_100, n_104, n_200, n_1000, n_1M, n_10M, nI_add, nI_sub, nI_mul, nI_div, nI_clamp, nI_leI, nI_ltI, nI_eq, nI_ng, nI_nl, nI_nlt2, nI_nlt3, and_self, and_true, true_and, and_false, false_and, or_true, true_or, or_false, false_or, if_true, if_false, ↓reduceIte, not_true_eq_false, not_false_eq_true, reduceCtorEq, h1, hai, ph_ri]
      rw [hai] at e
      rw [e]
      rfl
    · have e2 : M0 1000000 a i = 1000000 := by unfold M0; rw [if_neg hai]
      rw [e2] at e
      simp (disch := omega) only [pu_lt, pu_b1, pu_b2, pu_gn, n_0, n_1, n_2, n_3, n_4, n_5, n_6, n_7, n_8, n_9, n_10, n_14, n_20, n_31, n_48, n_59, n_70, n_98, n_99, n_100, n_104, n_200, n_1000, n_1M, n_10M, nI_add, nI_sub, nI_mul, nI_div, nI_clamp, nI_leI, nI_ltI, nI_eq, nI_ng, nI_nl, nI_nlt2, nI_nlt3, and_self, and_true, true_and, and_false, false_and, or_true, true_or, or_false, false_or, if_true, if_false, ↓reduceIte, not_true_eq_false, not_false_eq_true, reduceCtorEq, h1, hai, ph_ri]
      rw [e]
      rfl
  · unfold lb_X3_reckon_10
    simp (disch := omega) only [pu_lt, pu_b1, pu_b2, pu_gn, n_0, n_1, n_2, n_3, n_4, n_5, n_6, n_7, n_8, n_9, n_10, n_14, n_20, n_31, n_48, n_59, n_70, n_98, n_99, n_100, n_104, n_200, n_1000, n_1M, n_10M, nI_add, nI_sub, nI_mul, nI_div, nI_clamp, nI_leI, nI_ltI, nI_eq, nI_ng, nI_nl, nI_nlt2, nI_nlt3, and_self, and_true, true_and, and_false, false_and, or_true, true_or, or_false, false_or, if_true, if_false, ↓reduceIte, not_true_eq_false, not_false_eq_true, reduceCtorEq, Nat.le_refl]
theorem l_rk2 {g : PH} : lp_f (fun s => lb_X3_reckon_2 s.1 s.2) fu_l (0, g) = some (nI 8, ph_r g 16 (mt (g.1 16) (M0 1000000))) := by
  have h0 : ((0 : Int32), g) = (fun i => (nI i, ph_r g 16 (wr (g.1 16) (M0 1000000) (i * 8)))) 0 := by
    show _ = (nI 0, ph_r g 16 (wr (g.1 16) (M0 1000000) (0 * 8)))
    rw [Nat.zero_mul, wr_0, ph_rid]
    rfl
  rw [h0]
  refine lp_cnt (fun i => (nI i, ph_r g 16 (wr (g.1 16) (M0 1000000) (i * 8)))) 8 _ (fun i hi => ?_) ?_ fu_l 0 (by omega) (by unfold fu_l; omega)
  · have h1 : ¬ 8 ≤ i := by omega
    unfold lb_X3_reckon_2
    simp (disch := omega) only [pu_lt, pu_b1, pu_b2, pu_gn, n_0, n_1, n_2, n_3, n_4, n_5, n_6, n_7, n_8, n_9, n_10, n_14, n_20, n_31, n_48, n_59, n_70, n_98, n_99, n_100, n_104, n_200, n_1000, n_1M, n_10M, nI_add, nI_sub, nI_mul, nI_div, nI_clamp, nI_leI, nI_ltI, nI_eq, nI_ng, nI_nl, nI_nlt2, nI_nlt3, and_self, and_true, true_and, and_false, false_and, or_true, true_or, or_false, false_or, if_true, if_false, ↓reduceIte, not_true_eq_false, not_false_eq_true, reduceCtorEq, h1, l_rk10 hi]
    rw [Nat.add_mul]
  · unfold lb_X3_reckon_2
    simp (disch := omega) only [pu_lt, pu_b1, pu_b2, pu_gn, n_0, n_1, n_2, n_3, n_4, n_5, n_6, n_7, n_8, n_9, n_10, n_14, n_20, n_31, n_48, n_59, n_70, n_98, n_99, n_100, n_104, n_200, n_1000, n_1M, n_10M, nI_add, nI_sub, nI_mul, nI_div, nI_clamp, nI_leI, nI_ltI, nI_eq, nI_ng, nI_nl, nI_nlt2, nI_nlt3, and_self, and_true, true_and, and_false, false_and, or_true, true_or, or_false, false_or, if_true, if_false, ↓reduceIte, not_true_eq_false, not_false_eq_true, reduceCtorEq, Nat.le_refl]
/-- the runs as the class has them -/
def hr_c (g : PH) (P R : Nat) (f t y d : Nat → Nat) : Prop := g.1 10 0 = nI P ∧ g.1 10 2 = nI R ∧ P ≤ 8 ∧ R ≤ 14 ∧ ∀ k, k < R → g.1 11 k = nI (f k) ∧ g.1 12 k = nI (t k) ∧ g.1 13 k = nI (y k) ∧ g.1 14 k = nI (d k) ∧ f k < P ∧ t k < P ∧ 1 ≤ y k ∧ y k ≤ 9 ∧ d k ≤ 9
def hr_m (g : PH) (P R : Nat) (f t y d : Nat → Nat) : Prop := g.1 43 1 = nI P ∧ g.1 43 3 = nI R ∧ P ≤ 8 ∧ R ≤ 14 ∧ ∀ k, k < R → g.1 44 k = nI (f k) ∧ g.1 45 k = nI (t k) ∧ g.1 46 k = nI (y k) ∧ g.1 47 k = nI (d k) ∧ f k < P ∧ t k < P ∧ 1 ≤ y k ∧ y k ≤ 9 ∧ d k ≤ 9
theorem l_rk52 {g : PH} {P R : Nat} {f t y d : Nat → Nat} (hg : hr_c g P R f t y d) (F : Nat → Int32) : lp_f (fun s => lb_X3_reckon_52 s.1 s.2) fu_l (0, ph_r g 16 (mt F (M0 1000000))) = some (nI R, ph_r g 16 (mt F (rn f t (fun k => 1000 * y k + d k) (fun k => g.1 15 k == 0) R))) := by
  obtain ⟨h1, h2, h3, h4, h5⟩ := hg
  have hf : ∀ k, k < R → f k < P ∧ t k < P := fun k hk => ⟨(h5 k hk).2.2.2.2.1, (h5 k hk).2.2.2.2.2.1⟩
  refine lp_cnt (fun i => (nI i, ph_r g 16 (mt F (rn f t (fun k => 1000 * y k + d k) (fun k => g.1 15 k == 0) i)))) R _ (fun i hi => ?_) ?_ fu_l 0 (by omega) (by unfold fu_l; omega)
  · obtain ⟨k1, k2, k3, k4, k5, k6, k7, k8, k9⟩ := h5 i hi
    have q1 : ¬ R ≤ i := by omega
    have i14 : i < 14 := by omega
    have hci : (nI i).toNatClampNeg = i := nI_clamp (by omega)
    have bnd : ∀ u w, rn f t (fun k => 1000 * y k + d k) (fun k => g.1 15 k == 0) i u w ≤ 1000000 := fun u w => ((rn_p (c := fun k => 1000 * y k + d k) (o := fun k => g.1 15 k == 0) hf (show i ≤ R by omega)).1 u w).2
    show lb_X3_reckon_52 (nI i) (ph_r g 16 _) = some (.inl (nI (i + 1), ph_r g 16 (mt F (if (g.1 15 i == 0) = true then _ else _))))
    have len : ∀ X, f_X3_length (nI i) (ph_r g 16 X) = some (nI (1000 * y i + d i)) := by
      intro X
      unfold f_X3_length
      rw [pu_gn i14 (by decide), pu_gn i14 (by decide), hci, pr_rn (by decide), pr_rn (by decide), k3, k4]
      show some (nI (y i) * nI 1000 + nI (d i)) = _
      rw [nI_mul, nI_add, Nat.mul_comm]
    unfold lb_X3_reckon_52
    rw [pr_rn (by decide), h2, if_neg (nI_ge hi (by omega)), pu_gn i14 (by decide), hci, pr_rn (by decide), pr_rn (by decide), pr_rn (by decide), k1, k2]
    by_cases ho : g.1 15 i = 0
    · have ho2 : (g.1 15 i == 0) = true := by rw [ho]; rfl
      rw [if_pos ho, if_pos ho2, pu_gn i14 (by decide), pu_gn i14 (by decide), len, pu_b1, s_shorten (by omega) (by omega) (by have := bnd (f i) (t i); omega) (by omega), pu_b2, pu_gn i14 (by decide), pu_gn i14 (by decide), len, pu_b1, pr_rn (by decide), pr_rn (by decide), k1, k2, s_shorten (by omega) (by omega) (by
        have := bnd (t i) (f i)
        have := sh_le (rn f t (fun k => 1000 * y k + d k) (fun k => g.1 15 k == 0) i) (f i) (t i) (1000 * y i + d i) (t i) (f i)
        omega) (by omega), pu_b2, pu_lt, ← nI_succ]
    · have ho2 : ¬ (g.1 15 i == 0) = true := by simp [ho]
      rw [if_neg ho, if_neg ho2, pu_lt, ← nI_succ]
  · unfold lb_X3_reckon_52
    dsimp only
    rw [pr_rn (by decide), h2, if_pos (nI_le (Nat.le_refl _) (by omega))]
/-- within one phase -/
def fpp (P : Nat) (A : Nat → Nat → Nat) (o a b : Nat) : Nat → Nat → Nat := fun x y => if (x < a ∧ y < P) ∨ (x = a ∧ y < b) then min (A x y) (A x o + A o y) else A x y
theorem fpp_s {P : Nat} {A : Nat → Nat → Nat} {o a b : Nat} (h0 : A o o = 0) (ho : o < P) (hb : b < P) : sh (fpp P A o a b) a b (fpp P A o a b a o + fpp P A o a b o b) = fpp P A o a (b + 1) := by
  have e1 : fpp P A o a b a o = A a o := by
    unfold fpp
    by_cases h : (a < a ∧ o < P) ∨ (a = a ∧ o < b)
    · rw [if_pos h, h0]; omega
    · rw [if_neg h]
  have e2 : fpp P A o a b o b = A o b := by
    unfold fpp
    by_cases h : (o < a ∧ b < P) ∨ (o = a ∧ b < b)
    · rw [if_pos h, h0]; omega
    · rw [if_neg h]
  have e3 : fpp P A o a b a b = A a b := by
    unfold fpp
    rw [if_neg (by omega)]
  rw [e1, e2]
  unfold sh
  rw [e3]
  funext x y
  unfold mup fpp
  by_cases h : x = a ∧ y = b
  · rw [if_pos h, if_pos (by omega), h.1, h.2]
  · rw [if_neg h]
    by_cases h2 : (x < a ∧ y < P) ∨ (x = a ∧ y < b)
    · rw [if_pos h2, if_pos (by omega)]
    · rw [if_neg h2, if_neg (by omega)]
theorem fpp_r {P : Nat} {A : Nat → Nat → Nat} {o a : Nat} : fpp P A o a P = fpp P A o (a + 1) 0 := by
  funext x y
  unfold fpp
  by_cases h : (x < a ∧ y < P) ∨ (x = a ∧ y < P)
  · rw [if_pos h, if_pos (by omega)]
  · rw [if_neg h, if_neg (by omega)]
theorem fpp_0 {P : Nat} {A : Nat → Nat → Nat} {o : Nat} : fpp P A o 0 0 = A := by
  funext x y
  unfold fpp
  rw [if_neg (by omega)]
theorem fpp_e {P : Nat} {A : Nat → Nat → Nat} {o : Nat} : fpp P A o P 0 = fph P A o := by
  funext x y
  unfold fpp fph
  by_cases h : x < P ∧ y < P
  · rw [if_pos h, if_pos (by omega)]
  · rw [if_neg h, if_neg (by omega)]
theorem fpp_le {P : Nat} {A : Nat → Nat → Nat} {o a b x y : Nat} : fpp P A o a b x y ≤ A x y := by
  unfold fpp
  by_cases h : (x < a ∧ y < P) ∨ (x = a ∧ y < b)
  · rw [if_pos h]; omega
  · rw [if_neg h]; omega
theorem l_rk139 {g : PH} {F : Nat → Int32} {P o a : Nat} {A : Nat → Nat → Nat} (h10 : g.1 10 0 = nI P) (hP : P ≤ 8) (ho : o < P) (ha : a < P) (h0 : A o o = 0) (hA : ∀ x y, A x y ≤ 1000000) : lp_f (fun s => lb_X3_reckon_139 (nI o) (nI a) s.1 s.2) fu_l (0, ph_r g 16 (mt F (fpp P A o a 0))) = some (nI P, ph_r g 16 (mt F (fpp P A o (a + 1) 0))) := by
  rw [← fpp_r]
  refine lp_cnt (fun i => (nI i, ph_r g 16 (mt F (fpp P A o a i)))) P _ (fun i hi => ?_) ?_ fu_l 0 (by omega) (by unfold fu_l; omega)
  · have b1 := hA a o
    have b2 := hA o i
    have b3 := hA a i
    have c1 : fpp P A o a i a o ≤ A a o := fpp_le
    have c2 : fpp P A o a i o i ≤ A o i := fpp_le
    have c3 : fpp P A o a i a i ≤ A a i := fpp_le
    show lb_X3_reckon_139 (nI o) (nI a) (nI i) (ph_r g 16 _) = some (.inl (nI (i + 1), ph_r g 16 _))
    unfold lb_X3_reckon_139
    have q1 : ¬ P ≤ i := by omega
    have e1 := mt_at (f := F) (M := fpp P A o a i) (show a < 8 by omega) (show o < 8 by omega)
    have e2 := mt_at (f := F) (M := fpp P A o a i) (show o < 8 by omega) (show i < 8 by omega)
    simp (disch := omega) only [pu_lt, pu_b1, pu_b2, pu_gn, n_0, n_1, n_2, n_3, n_4, n_5, n_6, n_7, n_8, n_9, n_10, n_14, n_20, n_31, n_48, n_59, n_70, n_98, n_99, n_100, n_104, n_200, n_1000, n_1M, n_10M, nI_add, nI_sub, nI_mul, nI_div, nI_clamp, nI_leI, nI_ltI, nI_eq, nI_ng, nI_nl, nI_nlt2, nI_nlt3, and_self, and_true, true_and, and_false, false_and, or_true, true_or, or_false, false_or, if_true, if_false, ↓reduceIte, not_true_eq_false, not_false_eq_true, reduceCtorEq, pr_re, pr_rn (show 10 ≠ 16 by decide), h10, q1, e1, e2]
    rw [s_shorten (by omega) (by omega) (by omega) (by omega), fpp_s h0 ho hi, pu_b2]
  · unfold lb_X3_reckon_139
    dsimp only
    rw [pr_rn (by decide), h10, if_pos (nI_le (Nat.le_refl _) (by omega))]
theorem l_rk129 {g : PH} {F : Nat → Int32} {P o : Nat} {A : Nat → Nat → Nat} (h10 : g.1 10 0 = nI P) (hP : P ≤ 8) (ho : o < P) (h0 : A o o = 0) (hA : ∀ x y, A x y ≤ 1000000) : lp_f (fun s => lb_X3_reckon_129 (nI o) s.1 s.2) fu_l (0, ph_r g 16 (mt F A)) = some (nI P, ph_r g 16 (mt F (fph P A o))) := by
  rw [← fpp_e, show mt F A = mt F (fpp P A o 0 0) by rw [fpp_0]]
  refine lp_cnt (fun i => (nI i, ph_r g 16 (mt F (fpp P A o i 0)))) P _ (fun i hi => ?_) ?_ fu_l 0 (by omega) (by unfold fu_l; omega)
  · show lb_X3_reckon_129 (nI o) (nI i) (ph_r g 16 _) = some (.inl (nI (i + 1), ph_r g 16 _))
    unfold lb_X3_reckon_129
    rw [pr_rn (by decide), h10, if_neg (nI_ge hi (by omega)), l_rk139 h10 hP ho hi h0 hA, pu_b1, pu_lt, nI_succ]
  · unfold lb_X3_reckon_129
    dsimp only
    rw [pr_rn (by decide), h10, if_pos (nI_le (Nat.le_refl _) (by omega))]
theorem l_rk119 {op : Nat → Nat → Nat → Prop} {c : Nat → Nat} {g : PH} {F : Nat → Int32} {P : Nat} {A : Nat → Nat → Nat} (h10 : g.1 10 0 = nI P) (hP : P ≤ 8) (hs : Sd op c 1000000 A) (h0 : ∀ x, A x x = 0) : lp_f (fun s => lb_X3_reckon_119 s.1 s.2) fu_l (0, ph_r g 16 (mt F A)) = some (nI P, ph_r g 16 (mt F (fw P A P))) := by
  refine lp_cnt (fun i => (nI i, ph_r g 16 (mt F (fw P A i)))) P _ (fun i hi => ?_) ?_ fu_l 0 (by omega) (by unfold fu_l; omega)
  · obtain ⟨w1, w2, _⟩ := fw_p hs h0 (show i ≤ P by omega)
    show lb_X3_reckon_119 (nI i) (ph_r g 16 _) = some (.inl (nI (i + 1), ph_r g 16 _))
    unfold lb_X3_reckon_119
    rw [pr_rn (by decide), h10, if_neg (nI_ge hi (by omega)), l_rk129 h10 hP hi (w2 i) (fun x y => (w1 x y).2), pu_b1, pu_lt, nI_succ]
    rfl
  · unfold lb_X3_reckon_119
    dsimp only
    rw [pr_rn (by decide), h10, if_pos (nI_le (Nat.le_refl _) (by omega))]
theorem s_reckon {g : PH} {P R : Nat} {f t y d : Nat → Nat} (hg : hr_c g P R f t y d) : f_X3_reckon g = some ((), ph_r g 16 (mt (g.1 16) (fw P (rn f t (fun k => 1000 * y k + d k) (fun k => g.1 15 k == 0) R) P))) := by
  have hg' := hg
  obtain ⟨h1, h2, h3, h4, h5⟩ := hg
  have hf : ∀ k, k < R → f k < P ∧ t k < P := fun k hk => ⟨(h5 k hk).2.2.2.2.1, (h5 k hk).2.2.2.2.2.1⟩
  obtain ⟨r1, r2, _⟩ := rn_p (c := fun k => 1000 * y k + d k) (o := fun k => g.1 15 k == 0) hf (Nat.le_refl R)
  unfold f_X3_reckon
  rw [l_rk2, pu_b1, l_rk52 hg', pu_b1, l_rk119 h1 h3 r1 r2, pu_b1]
