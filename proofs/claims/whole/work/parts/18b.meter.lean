/-! METERS: which sets fit, counted by both -/
theorem nI_a0 (a : Nat) : nI a + 0 = nI a := by
  show nI a + nI 0 = _
  rw [nI_add, Nat.add_zero]
theorem or_add {o p : Nat} (h : o < 2 ^ p) : o ||| 2 ^ p = 2 ^ p + o := by
  have := Nat.two_pow_add_eq_or_of_lt h 1
  rw [Nat.mul_one] at this
  rw [Nat.or_comm, this]
theorem p2_lt {p : Nat} (h : p < 8) : 2 ^ p * 2 ≤ 256 := by
  have : 2 ^ (p + 1) ≤ 2 ^ 8 := Nat.pow_le_pow_right (by omega) h
  rw [Nat.pow_succ] at this
  omega
theorem s_add24 {h : PH} {N p : Nat} {ld : Nat → Nat} (hN : N ≤ 8) (hp : p < N) (hl : h.1 19 p = nI (ld p)) (h40 : ∀ s, s < 2 ^ p → h.1 40 s = nI (sl ld s N)) : ∃ r, lp_f (fun s => lb_X4_addUp_24 (nI p) (nI (2 ^ p)) s.1 s.2) fu_l (0, h) = some r ∧ (∀ a, a ≠ 40 → r.2.1 a = h.1 a) ∧ r.2.2 = h.2 ∧ ∀ s, s < 2 ^ (p + 1) → r.2.1 40 s = nI (sl ld s N) := by
  have hp2 := p2_lt (show p < 8 by omega)
  refine lp_0 (fun i s => s.1 = nI i ∧ (∀ a, a ≠ 40 → s.2.1 a = h.1 a) ∧ s.2.2 = h.2 ∧ ∀ t, t < 2 ^ p + i → s.2.1 40 t = nI (sl ld t N)) _ (2 ^ p) (by omega) ?_ ?_ (0, h) ⟨rfl, fun _ _ => rfl, rfl, h40⟩
  · rintro i ⟨x, g⟩ hi ⟨rfl, e1, e2, e3⟩
    left
    have hor := or_add hi
    have hb : i.testBit p = false := Nat.testBit_lt_two_pow hi
    refine ⟨(nI (i + 1), ph_i g 40 (i ||| 2 ^ p) (nI (sl ld (i ||| 2 ^ p) N))), ?_, rfl, ?_, e2, ?_⟩
    · show lb_X4_addUp_24 (nI p) (nI (2 ^ p)) (nI i) g = _
      unfold lb_X4_addUp_24
      rw [if_neg (nI_ge hi (by omega)), pu_gn (show i < 256 by omega) (by decide), pu_gn (show p < 8 by omega) (by decide), nI_or, pu_gn (show i ||| 2 ^ p < 256 by omega) (by decide), nI_clamp (by omega), nI_clamp (by omega), nI_clamp (by omega), pu_lt, pu_lt, ← nI_succ, e3 i (by omega), e1 19 (by decide), hl, nI_add, sl_add hb, if_pos hp]
    · intro a ha
      show (ph_i g 40 (i ||| 2 ^ p) (nI (sl ld (i ||| 2 ^ p) N))).1 a = _
      rw [pr_ne ha, e1 a ha]
    · intro t ht
      show (ph_i g 40 (i ||| 2 ^ p) (nI (sl ld (i ||| 2 ^ p) N))).1 40 t = _
      rw [pr_eq]
      by_cases hq : t = i ||| 2 ^ p
      · rw [if_pos hq, hq]
      · rw [if_neg hq]; exact e3 t (by omega)
  · rintro ⟨x, g⟩ ⟨rfl, e1, e2, e3⟩
    refine ⟨(nI (2 ^ p), g), ?_, e1, e2, fun s hs => e3 s (by rw [Nat.pow_succ] at hs; omega)⟩
    show lb_X4_addUp_24 (nI p) (nI (2 ^ p)) (nI (2 ^ p)) g = _
    unfold lb_X4_addUp_24
    rw [if_pos (nI_le (Nat.le_refl _) (by omega))]
theorem s_addUp {h : PH} {N : Nat} {ld : Nat → Nat} (hN : N ≤ 8) (h17 : h.1 17 0 = nI N) (hl : ∀ p, p < N → h.1 19 p = nI (ld p)) : ∃ g, f_X4_addUp h = some ((), g) ∧ (∀ a, a ≠ 40 → g.1 a = h.1 a) ∧ g.2 = h.2 ∧ ∀ s, s < 2 ^ N → g.1 40 s = nI (sl ld s N) := by
  have hL : ∃ r, lp_f (fun s => lb_X4_addUp_9 s.1 s.2) fu_l (0, ph_i h 40 0 0) = some r ∧ ((∀ a, a ≠ 40 → r.2.1 a = h.1 a) ∧ r.2.2 = h.2 ∧ ∀ s, s < 2 ^ N → r.2.1 40 s = nI (sl ld s N)) := by
    refine lp_0 (fun i s => s.1 = nI i ∧ (∀ a, a ≠ 40 → s.2.1 a = h.1 a) ∧ s.2.2 = h.2 ∧ ∀ t, t < 2 ^ i → s.2.1 40 t = nI (sl ld t N)) _ N (by omega) ?_ ?_ _ ⟨rfl, fun a ha => pr_ne ha, rfl, ?_⟩
    · rintro i ⟨x, g⟩ hi ⟨rfl, e1, e2, e3⟩
      left
      obtain ⟨r, r1, r2, r3, r4⟩ := s_add24 hN hi (by rw [e1 19 (by decide)]; exact hl i hi) e3
      refine ⟨(nI (i + 1), r.2), ?_, rfl, fun a ha => by rw [r2 a ha, e1 a ha], by rw [r3]; exact e2, r4⟩
      show lb_X4_addUp_9 (nI i) g = _
      unfold lb_X4_addUp_9
      rw [e1 17 (by decide), h17, if_neg (nI_ge hi (by omega)), sh_one (by omega), pu_lt, r1, pu_b1, pu_lt, ← nI_succ]
    · rintro ⟨x, g⟩ ⟨rfl, e1, e2, e3⟩
      refine ⟨(nI N, g), ?_, e1, e2, e3⟩
      show lb_X4_addUp_9 (nI N) g = _
      unfold lb_X4_addUp_9
      rw [e1 17 (by decide), h17, if_pos (nI_le (Nat.le_refl _) (by omega))]
    · intro t ht
      have : t = 0 := by simpa using ht
      subst this
      show (ph_i h 40 0 0).1 40 0 = _
      rw [pr_eq, if_pos rfl, sl_zero]
      rfl
  obtain ⟨r, r1, r2⟩ := hL
  refine ⟨r.2, ?_, r2⟩
  unfold f_X4_addUp
  rw [show (ga_i (β := Unit × PH) 0 256) = ga_i (nI 0) 256 from rfl, pu_gn (by decide) (by decide), pu_lt, show (0 : Int32).toNatClampNeg = 0 from rfl, r1, pu_b1]
def fb (ld : Nat → Nat) (N : Nat) (st sh : Nat → Nat) (M mine : Nat) : Bool := decide (∀ k, k < M → sl ld (mine &&& st k) N = sh k)
theorem fb_t {ld : Nat → Nat} {N : Nat} {st sh : Nat → Nat} {M mine : Nat} : fb ld N st sh M mine = true ↔ ∀ k, k < M → sl ld (mine &&& st k) N = sh k := by
  unfold fb
  exact decide_eq_true_iff
theorem fb_f {ld : Nat → Nat} {N : Nat} {st sh : Nat → Nat} {M mine k : Nat} (hk : k < M) (h : ¬ sl ld (mine &&& st k) N = sh k) : fb ld N st sh M mine = false := by
  cases hq : fb ld N st sh M mine with
  | false => rfl
  | true => exact absurd (fb_t.mp hq k hk) h
theorem s_fit {h : PH} {N M mine : Nat} {ld st sh : Nat → Nat} (hN : N ≤ 8) (hM : M ≤ 12) (hm : mine < 2 ^ N) (hld : ∀ p, p < N → ld p ≤ 20) (h37 : h.1 37 0 = nI M) (h38 : ∀ k, k < M → h.1 38 k = nI (st k)) (h39 : ∀ k, k < M → h.1 39 k = nI (sh k) ∧ sh k ≤ 200) (h40 : ∀ s, s < 2 ^ N → h.1 40 s = nI (sl ld s N)) : f_X4_isFitting (nI mine) h = some (if fb ld N st sh M mine then 1 else 0) := by
  have h2 := p2_le hN
  have hL : ∃ r, lp_f (fun s => lb_X4_isFitting_2 (nI mine) h s) fu_l 0 = some r ∧ ((fb ld N st sh M mine = false ∧ r = .inl 0) ∨ (fb ld N st sh M mine = true ∧ ∃ x, r = .inr x)) := by
    refine lp_0 (fun i s => s = nI i ∧ ∀ k, k < i → sl ld (mine &&& st k) N = sh k) _ M (by omega) ?_ ?_ 0 ⟨rfl, fun k hk => by omega⟩
    · rintro i s hi ⟨rfl, e⟩
      have ha : mine &&& st i < 2 ^ N := Nat.lt_of_le_of_lt Nat.and_le_left hm
      have hs := sl_le (ld := ld) (s := mine &&& st i) (m := 20) N hld
      have e0 : lb_X4_isFitting_2 (nI mine) h (nI i) = if nI (sl ld (mine &&& st i) N) = nI (sh i) then some (.inl (nI (i + 1))) else some (.inr (.inl 0)) := by
        unfold lb_X4_isFitting_2
        rw [h37, if_neg (nI_ge hi (by omega)), pu_gn (show i < 12 by omega) (by decide), nI_clamp (by omega), h38 i hi, nI_and, pu_gn (show mine &&& st i < 256 by omega) (by decide), pu_gn (show i < 12 by omega) (by decide), nI_clamp (by omega), h40 _ ha, (h39 i hi).1, pu_lt, ← nI_succ]
      have h3 := (h39 i hi).2
      by_cases hq : sl ld (mine &&& st i) N = sh i
      · left
        refine ⟨nI (i + 1), ?_, rfl, fun k hk => ?_⟩
        · show lb_X4_isFitting_2 (nI mine) h (nI i) = _
          rw [e0, if_pos (by rw [hq])]
        · by_cases hki : k = i
          · subst hki; exact hq
          · exact e k (by omega)
      · right
        refine ⟨.inl 0, ?_, Or.inl ⟨fb_f hi hq, rfl⟩⟩
        show lb_X4_isFitting_2 (nI mine) h (nI i) = _
        rw [e0, if_neg (by rw [nI_eq (by omega) (by omega)]; exact hq)]
    · rintro s ⟨rfl, e⟩
      refine ⟨.inr (nI M), ?_, Or.inr ⟨fb_t.mpr e, _, rfl⟩⟩
      show lb_X4_isFitting_2 (nI mine) h (nI M) = _
      unfold lb_X4_isFitting_2
      rw [h37, if_pos (nI_le (Nat.le_refl _) (by omega))]
  obtain ⟨r, r1, r2⟩ := hL
  unfold f_X4_isFitting
  rw [r1, pu_b1]
  rcases r2 with ⟨q, rfl⟩ | ⟨q, x, rfl⟩
  · rw [q]; rfl
  · rw [q]; rfl
theorem m_loads {h : PH} {N s : Nat} {ld : Nat → Nat} (hN : N ≤ 8) (hs : s < 256) (hld : ∀ p, p < N → ld p ≤ 20) (h19 : h.1 43 19 = nI N) (h55 : ∀ p, p < N → h.1 55 p = nI (ld p)) : f_X12_loadsOf (nI s) h = some (nI (sl ld s N)) := by
  have hL : lp_f (fun t => lb_X12_loadsOf_4 (nI s) h t.1 t.2) fu_l (0, 0) = some (nI (sl ld s N), nI N) := by
    refine lp_cnt (fun i => (nI (sl ld s i), nI i)) N _ (fun i hi => ?_) ?_ fu_l 0 (by omega) (by unfold fu_l; omega)
    · show lb_X12_loadsOf_4 (nI s) h (nI (sl ld s i)) (nI i) = _
      unfold lb_X12_loadsOf_4
      rw [h19, if_neg (nI_ge hi (by omega)), m_has hs (by omega), pu_b1]
      by_cases hb : s.testBit i = true
      · rw [if_pos hb, if_neg (by decide), pu_gn (show i < 8 by omega) (by decide), nI_clamp (by omega), h55 i hi, nI_add, pu_lt, pu_lt, ← nI_succ, show sl ld s (i + 1) = sl ld s i + ld i by show sl ld s i + _ = _; rw [if_pos hb]]
      · rw [if_neg hb, if_pos rfl, pu_lt, pu_lt, ← nI_succ, show sl ld s (i + 1) = sl ld s i + 0 by show sl ld s i + _ = _; rw [if_neg hb]]
        rw [nI_a0]
        rfl
    · show lb_X12_loadsOf_4 (nI s) h (nI (sl ld s N)) (nI N) = _
      unfold lb_X12_loadsOf_4
      rw [h19, if_pos (nI_le (Nat.le_refl _) (by omega))]
  unfold f_X12_loadsOf
  rw [hL, pu_b1]
theorem m_fit {h : PH} {N M mine : Nat} {ld st sh : Nat → Nat} (hN : N ≤ 8) (hM : M ≤ 12) (hm : mine < 2 ^ N) (hld : ∀ p, p < N → ld p ≤ 20) (h19 : h.1 43 19 = nI N) (h55 : ∀ p, p < N → h.1 55 p = nI (ld p)) (h37 : h.1 43 37 = nI M) (h65 : ∀ k, k < M → h.1 65 k = nI (st k)) (h66 : ∀ k, k < M → h.1 66 k = nI (sh k) ∧ sh k ≤ 200) : f_X12_doesFit (nI mine) h = some (if fb ld N st sh M mine then 1 else 0) := by
  have h2 := p2_le hN
  have hL : ∃ r, lp_f (fun s => lb_X12_doesFit_4 (nI mine) h s.1 s.2) fu_l (1, 0) = some r ∧ r.1 = if fb ld N st sh M mine then 1 else 0 := by
    refine lp_0 (fun i s => s.2 = nI i ∧ ((s.1 = 1 ∧ ∀ k, k < i → sl ld (mine &&& st k) N = sh k) ∨ (s.1 = 0 ∧ fb ld N st sh M mine = false))) _ M (by omega) ?_ ?_ (1, 0) ⟨rfl, Or.inl ⟨rfl, fun k hk => by omega⟩⟩
    · rintro i ⟨x, y⟩ hi ⟨rfl, ⟨rfl, e⟩ | ⟨rfl, e⟩⟩
      · left
        have ha : mine &&& st i < 2 ^ N := Nat.lt_of_le_of_lt Nat.and_le_left hm
        have hs := sl_le (ld := ld) (s := mine &&& st i) (m := 20) N hld
        have h3 := (h66 i hi).2
        have e0 : lb_X12_doesFit_4 (nI mine) h 1 (nI i) = if nI (sl ld (mine &&& st i) N) = nI (sh i) then some (.inl (1, nI (i + 1))) else some (.inl (0, nI (i + 1))) := by
          unfold lb_X12_doesFit_4
          rw [h37, if_neg (nI_ge hi (by omega)), if_neg (by decide), pu_gn (show i < 12 by omega) (by decide), nI_clamp (by omega), h65 i hi, nI_and, m_loads hN (by omega) hld h19 h55, pu_b1, pu_gn (show i < 12 by omega) (by decide), (h66 i hi).1, pu_lt, ← nI_succ]
          rfl
        by_cases hq : sl ld (mine &&& st i) N = sh i
        · refine ⟨(1, nI (i + 1)), ?_, rfl, Or.inl ⟨rfl, fun k hk => ?_⟩⟩
          · show lb_X12_doesFit_4 (nI mine) h 1 (nI i) = _
            rw [e0, if_pos (by rw [hq])]
          · by_cases hki : k = i
            · subst hki; exact hq
            · exact e k (by omega)
        · refine ⟨(0, nI (i + 1)), ?_, rfl, Or.inr ⟨rfl, fb_f hi hq⟩⟩
          show lb_X12_doesFit_4 (nI mine) h 1 (nI i) = _
          rw [e0, if_neg (by rw [nI_eq (by omega) (by omega)]; exact hq)]
      · right
        refine ⟨(0, nI i), ?_, by rw [e]; rfl⟩
        show lb_X12_doesFit_4 (nI mine) h 0 (nI i) = _
        unfold lb_X12_doesFit_4
        rw [h37, if_neg (nI_ge hi (by omega)), if_pos rfl]
    · rintro ⟨x, y⟩ ⟨rfl, e⟩
      refine ⟨(x, nI M), ?_, ?_⟩
      · show lb_X12_doesFit_4 (nI mine) h x (nI M) = _
        unfold lb_X12_doesFit_4
        rw [h37, if_pos (nI_le (Nat.le_refl _) (by omega))]
      · rcases e with ⟨rfl, e⟩ | ⟨rfl, e⟩
        · rw [fb_t.mpr e]; rfl
        · rw [e]; rfl
  obtain ⟨r, r1, r2⟩ := hL
  unfold f_X12_doesFit
  rw [r1, pu_b1, r2]
  cases fb ld N st sh M mine <;> rfl
