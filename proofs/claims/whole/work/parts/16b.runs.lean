/-- one run of a text, behind its sign: read to q, or wrong at q -/
def RunS (T : Nat → Int32) (n P p q a b y d : Nat) : Prop := dgt T n p 0 (P - 1) a ∧ dgt T n (p + 1) 0 (P - 1) b ∧ b ≠ a ∧ dgt T n (p + 2) 1 9 y ∧ ((¬ (p + 3 < n ∧ T (p + 3) = 100) ∧ q = p + 3 ∧ d = 0) ∨ ((p + 3 < n ∧ T (p + 3) = 100) ∧ dgt T n (p + 4) 1 9 d ∧ q = p + 5))
def RunF (T : Nat → Int32) (n P p q : Nat) : Prop := ((¬ ∃ a, dgt T n p 0 (P - 1) a) ∧ q = p) ∨ (∃ a, dgt T n p 0 (P - 1) a ∧ (((¬ ∃ b, dgt T n (p + 1) 0 (P - 1) b ∧ b ≠ a) ∧ q = p + 1) ∨ ∃ b, dgt T n (p + 1) 0 (P - 1) b ∧ b ≠ a ∧ (((¬ ∃ y, dgt T n (p + 2) 1 9 y) ∧ q = p + 2) ∨ ∃ y, dgt T n (p + 2) 1 9 y ∧ (p + 3 < n ∧ T (p + 3) = 100) ∧ (¬ ∃ d, dgt T n (p + 4) 1 9 d) ∧ q = p + 4)))
theorem run_tot (T : Nat → Int32) (n P p : Nat) : (∃ q a b y d, RunS T n P p q a b y d) ∨ ∃ q, RunF T n P p q := by
  by_cases h1 : ∃ a, dgt T n p 0 (P - 1) a
  · obtain ⟨a, ha⟩ := h1
    by_cases h2 : ∃ b, dgt T n (p + 1) 0 (P - 1) b ∧ b ≠ a
    · obtain ⟨b, hb, hba⟩ := h2
      by_cases h3 : ∃ y, dgt T n (p + 2) 1 9 y
      · obtain ⟨y, hy⟩ := h3
        by_cases h4 : p + 3 < n ∧ T (p + 3) = 100
        · by_cases h5 : ∃ d, dgt T n (p + 4) 1 9 d
          · obtain ⟨d, hd⟩ := h5
            exact Or.inl ⟨p + 5, a, b, y, d, ha, hb, hba, hy, Or.inr ⟨h4, hd, rfl⟩⟩
          · exact Or.inr ⟨p + 4, Or.inr ⟨a, ha, Or.inr ⟨b, hb, hba, Or.inr ⟨y, hy, h4, h5, rfl⟩⟩⟩⟩
        · exact Or.inl ⟨p + 3, a, b, y, 0, ha, hb, hba, hy, Or.inl ⟨h4, rfl, rfl⟩⟩
      · exact Or.inr ⟨p + 2, Or.inr ⟨a, ha, Or.inr ⟨b, hb, hba, Or.inl ⟨h3, rfl⟩⟩⟩⟩
    · exact Or.inr ⟨p + 1, Or.inr ⟨a, ha, Or.inl ⟨h2, rfl⟩⟩⟩
  · exact Or.inr ⟨p, Or.inl ⟨h1, rfl⟩⟩
def CC (h0 h : PH) (k : Nat) : Prop := (∀ j, j < 7 → h.1 5 j = h0.1 5 j) ∧ ∀ j, j ≠ k → h.1 6 j = h0.1 6 j ∧ h.1 7 j = h0.1 7 j ∧ h.1 8 j = h0.1 8 j ∧ h.1 9 j = h0.1 9 j
theorem cc_0 (h : PH) (k : Nat) : CC h h k := ⟨fun _ _ => rfl, fun _ _ => ⟨rfl, rfl, rfl, rfl⟩⟩
theorem cc_5 {h0 h : PH} {k : Nat} {v : Int32} (hc : CC h0 h k) : CC h0 (ph_i h 5 10 v) k := by
  refine ⟨fun j hj => ?_, fun j hj => ?_⟩
  · rw [pr_eq, if_neg (by omega)]; exact hc.1 j hj
  · rw [pr_ne (by decide), pr_ne (by decide), pr_ne (by decide), pr_ne (by decide)]; exact hc.2 j hj
theorem cc_w {h0 h : PH} {k a : Nat} {v : Int32} (hc : CC h0 h k) (ha : a = 6 ∨ a = 7 ∨ a = 8 ∨ a = 9) : CC h0 (ph_i h a k v) k := by
  refine ⟨fun j hj => ?_, fun j hj => ?_⟩
  · rw [pr_ne (by omega)]; exact hc.1 j hj
  · have : ∀ b, (ph_i h a k v).1 b j = h.1 b j := by
      intro b
      by_cases hb : b = a
      · subst hb; rw [pr_eq, if_neg hj]
      · rw [pr_ne hb]
    rw [this, this, this, this]
    exact hc.2 j hj
theorem c_e1 {g h : PH} {sp n p q d : Nat} (hsp : sp + n ≤ 400) (hc : CF g sp n h p) (hq : q = p + 1) (hd : dgt (fun i => g.1 4 (sp + i)) n p 1 9 d) : f_X10_digit 1 9 h = some (nI d, ph_i h 5 10 (nI (sp + q))) := by
  subst hq
  exact c_d1 (lo := 1) (hi := 9) hsp hc (by omega) hd
theorem c_e0 {g h : PH} {sp n p : Nat} (hsp : sp + n ≤ 400) (hc : CF g sp n h p) (hd : ¬ ∃ d, dgt (fun i => g.1 4 (sp + i)) n p 1 9 d) : f_X10_digit 1 9 h = some (-1, h) := c_d0 (lo := 1) (hi := 9) hsp hc (by omega) (by omega) hd
theorem c_s1q {g h : PH} {sp n p q : Nat} {code : Int32} (hsp : sp + n ≤ 400) (hc : CF g sp n h p) (he : q = p + 1) (hq : p < n ∧ g.1 4 (sp + p) = code) : f_X10_isSign code h = some (1, ph_i h 5 10 (nI (sp + q))) := by
  subst he
  exact c_s1 hsp hc hq
def rd_tail (k : Nat) (h_19 : PH) : Option (Int32 × PH) :=
  bd_2 (f_X10_isSign 100 h_19) fun r_20 h_21 =>
  if r_20 = 0 then (
  ga_i (nI k) 14 (
  if (h_21.1 9 k) = (-1) then (
  some (0, h_21))
  else (
  some (1, h_21))))
  else (
  bd_2 (f_X10_digit 1 9 h_21) fun r_24 h_25 =>
  ga_i (nI k) 14 (
  lt_b (ph_i h_25 9 k r_24) fun h_27 =>
  ga_i (nI k) 14 (
  if (h_27.1 9 k) = (-1) then (
  some (0, h_27))
  else (
  some (1, h_27)))))
def rd_rest (k : Nat) (hh : PH) : Option (Int32 × PH) :=
  bd_2 (f_X10_digit 1 9 hh) fun r_13 h_14 =>
  ga_i (nI k) 14 (
  lt_b (ph_i h_14 8 k r_13) fun h_16 =>
  ga_i (nI k) 14 (
  if (h_16.1 8 k) = (-1) then (
  some (0, h_16))
  else (
  ga_i (nI k) 14 (
  lt_b (ph_i h_16 9 k 0) fun h_19 =>
  rd_tail k h_19))))
theorem c_run {g h : PH} {sp n p P k : Nat} (hsp : sp + n ≤ 400) (hc : CF g sp n h p) (h4 : h.1 5 4 = nI P) (hP : 2 ≤ P ∧ P ≤ 8) (hk : k < 14) : (∀ q, RunF (fun i => g.1 4 (sp + i)) n P p q → ∃ h2, f_X10_isRunRead (nI k) h = some (0, h2) ∧ CF g sp n h2 q ∧ CC h h2 k) ∧ ∀ q a b y d, RunS (fun i => g.1 4 (sp + i)) n P p q a b y d → ∃ h2, f_X10_isRunRead (nI k) h = some (1, h2) ∧ CF g sp n h2 q ∧ CC h h2 k ∧ h2.1 6 k = nI a ∧ h2.1 7 k = nI b ∧ h2.1 8 k = nI y ∧ h2.1 9 k = nI d := by
  have hck : (nI k).toNatClampNeg = k := nI_clamp (by omega)
  have e4 : nI P - 1 = nI (P - 1) := by
    show nI P - nI 1 = _
    rw [nI_sub (by omega)]
  -- first figure wrong
  have f1 : (¬ ∃ a, dgt (fun i => g.1 4 (sp + i)) n p 0 (P - 1) a) → f_X10_isRunRead (nI k) h = some (0, ph_i h 6 k (-1)) := by
    intro hno
    unfold f_X10_isRunRead
    rw [h4, e4, show (0 : Int32) = nI 0 from rfl, c_d0 hsp hc (by omega) (by omega) hno, pu_b2, pu_gn hk (by decide), hck, pu_lt, pu_gn hk (by decide), pr_eq, if_pos rfl, if_pos rfl]
  -- behind the first figure
  have f2 : ∀ a, dgt (fun i => g.1 4 (sp + i)) n p 0 (P - 1) a → ∃ h2, CF g sp n h2 (p + 1) ∧ CC h h2 k ∧ h2.1 6 k = nI a ∧ h2.1 5 4 = nI P ∧ ((¬ ∃ b, dgt (fun i => g.1 4 (sp + i)) n (p + 1) 0 (P - 1) b ∧ b ≠ a) → ∃ h3, f_X10_isRunRead (nI k) h = some (0, h3) ∧ CF g sp n h3 (p + 1) ∧ CC h h3 k) ∧ ∀ b, dgt (fun i => g.1 4 (sp + i)) n (p + 1) 0 (P - 1) b → b ≠ a → f_X10_isRunRead (nI k) h = rd_rest k (ph_i (ph_i h2 5 10 (nI (sp + (p + 2)))) 7 k (nI b)) := by
    intro a ha
    have ha9 : a ≤ 7 := by have := ha.2.2.2; omega
    have na : ¬ nI a = -1 := nI_n1 (by omega)
    have p1 : p + 1 ≤ n := ha.1
    have C2 : CF g sp n (ph_i (ph_i h 5 10 (nI (sp + (p + 1)))) 6 k (nI a)) (p + 1) := cf_w (cf_5 hc p1) (Or.inl rfl)
    have r4 : (ph_i (ph_i h 5 10 (nI (sp + (p + 1)))) 6 k (nI a)).1 5 4 = nI P := by rw [pr_ne (by decide), pr_eq, if_neg (by decide)]; exact h4
    have r6 : (ph_i (ph_i h 5 10 (nI (sp + (p + 1)))) 6 k (nI a)).1 6 k = nI a := by rw [pr_eq, if_pos rfl]
    refine ⟨ph_i (ph_i h 5 10 (nI (sp + (p + 1)))) 6 k (nI a), C2, cc_w (cc_5 (cc_0 h k)) (Or.inl rfl), r6, r4, fun hno => ?_, fun b hb hba => ?_⟩
    · by_cases hsame : p + 1 < n ∧ g.1 4 (sp + (p + 1)) = nI (48 + a)
      · refine ⟨_, ?_, C2, cc_w (cc_5 (cc_0 h k)) (Or.inl rfl)⟩
        unfold f_X10_isRunRead
        rw [h4, e4, show (0 : Int32) = nI 0 from rfl, c_d1 hsp hc (by omega) ha, pu_b2, pu_gn hk (by decide), hck, pu_lt, pu_gn hk (by decide), r6, if_neg na, pu_gn hk (by decide), show (48 : Int32) + nI a = nI (48 + a) from nI_add 48 _, c_has hsp C2, if_pos hsame, pu_b1, if_neg (show ¬ (1 : Int32) = nI 0 by decide)]
      · have hno2 : ¬ ∃ b, dgt (fun i => g.1 4 (sp + i)) n (p + 1) 0 (P - 1) b := by
          rintro ⟨b, hb⟩
          by_cases hba : b = a
          · subst hba
            exact hsame ⟨hb.1, hb.2.1⟩
          · exact hno ⟨b, hb, hba⟩
        refine ⟨ph_i (ph_i (ph_i h 5 10 (nI (sp + (p + 1)))) 6 k (nI a)) 7 k (-1), ?_, cf_w C2 (Or.inr (Or.inl rfl)), cc_w (cc_w (cc_5 (cc_0 h k)) (Or.inl rfl)) (Or.inr (Or.inl rfl))⟩
        unfold f_X10_isRunRead
        rw [h4, e4, show (0 : Int32) = nI 0 from rfl, c_d1 hsp hc (by omega) ha, pu_b2, pu_gn hk (by decide), hck, pu_lt, pu_gn hk (by decide), r6, if_neg na, pu_gn hk (by decide), show (48 : Int32) + nI a = nI (48 + a) from nI_add 48 _, c_has hsp C2, if_neg hsame, pu_b1, if_pos (show (0 : Int32) = nI 0 from rfl), r4, e4, c_d0 hsp C2 (by omega) (by omega) hno2, pu_b2, pu_gn hk (by decide), pu_lt, pu_gn hk (by decide), pr_eq, if_pos rfl, if_pos rfl]
    · have hb9 : b ≤ 7 := by have := hb.2.2.2; omega
      have nb : ¬ nI b = -1 := nI_n1 (by omega)
      have hsame : ¬ (p + 1 < n ∧ g.1 4 (sp + (p + 1)) = nI (48 + a)) := by
        rintro ⟨_, q⟩
        have := hb.2.1
        rw [show g.1 4 (sp + (p + 1)) = nI (48 + b) from this] at q
        have := nI_inj q (by omega) (by omega)
        omega
      unfold f_X10_isRunRead
      rw [h4, e4, show (0 : Int32) = nI 0 from rfl, c_d1 hsp hc (by omega) ha, pu_b2, pu_gn hk (by decide), hck, pu_lt, pu_gn hk (by decide), r6, if_neg na, pu_gn hk (by decide), show (48 : Int32) + nI a = nI (48 + a) from nI_add 48 _, c_has hsp C2, if_neg hsame, pu_b1, if_pos (show (0 : Int32) = nI 0 from rfl), r4, e4, c_d1 hsp C2 (by omega) hb, pu_b2, pu_gn hk (by decide), pu_lt, pu_gn hk (by decide), pr_eq, if_pos rfl, if_neg nb]
      rfl
  -- the rest
  have f3 : ∀ a b, dgt (fun i => g.1 4 (sp + i)) n p 0 (P - 1) a → dgt (fun i => g.1 4 (sp + i)) n (p + 1) 0 (P - 1) b → b ≠ a → ((¬ ∃ y, dgt (fun i => g.1 4 (sp + i)) n (p + 2) 1 9 y) → ∃ h3, f_X10_isRunRead (nI k) h = some (0, h3) ∧ CF g sp n h3 (p + 2) ∧ CC h h3 k) ∧ ∀ y, dgt (fun i => g.1 4 (sp + i)) n (p + 2) 1 9 y → ((p + 3 < n ∧ g.1 4 (sp + (p + 3)) = 100) → (¬ ∃ d, dgt (fun i => g.1 4 (sp + i)) n (p + 4) 1 9 d) → ∃ h3, f_X10_isRunRead (nI k) h = some (0, h3) ∧ CF g sp n h3 (p + 4) ∧ CC h h3 k) ∧ ∀ q d, ((¬ (p + 3 < n ∧ g.1 4 (sp + (p + 3)) = 100) ∧ q = p + 3 ∧ d = 0) ∨ ((p + 3 < n ∧ g.1 4 (sp + (p + 3)) = 100) ∧ dgt (fun i => g.1 4 (sp + i)) n (p + 4) 1 9 d ∧ q = p + 5)) → ∃ h2, f_X10_isRunRead (nI k) h = some (1, h2) ∧ CF g sp n h2 q ∧ CC h h2 k ∧ h2.1 6 k = nI a ∧ h2.1 7 k = nI b ∧ h2.1 8 k = nI y ∧ h2.1 9 k = nI d := by
    intro a b ha hb hba
    obtain ⟨h2, C2, K2, r6, r4, _, hgo⟩ := f2 a ha
    have hgo := hgo b hb hba
    have p2 : p + 2 ≤ n := hb.1
    obtain ⟨h5, e5⟩ : ∃ h5, h5 = ph_i (ph_i h2 5 10 (nI (sp + (p + 2)))) 7 k (nI b) := ⟨_, rfl⟩
    rw [← e5] at hgo
    have C5 : CF g sp n h5 (p + 2) := by rw [e5]; exact cf_w (cf_5 C2 p2) (Or.inr (Or.inl rfl))
    have K5 : CC h h5 k := by rw [e5]; exact cc_w (cc_5 K2) (Or.inr (Or.inl rfl))
    have v6 : h5.1 6 k = nI a := by rw [e5, pr_ne (by decide), pr_ne (by decide)]; exact r6
    have v7 : h5.1 7 k = nI b := by rw [e5, pr_eq, if_pos rfl]
    clear e5
    rw [hgo]
    unfold rd_rest
    refine ⟨fun hno => ?_, fun y hy => ?_⟩
    · refine ⟨ph_i h5 8 k (-1), ?_, cf_w C5 (Or.inr (Or.inr (Or.inl rfl))), cc_w K5 (Or.inr (Or.inr (Or.inl rfl)))⟩
      rw [c_e0 hsp C5 hno, pu_b2, pu_gn hk (by decide), pu_lt, pu_gn hk (by decide), pr_eq, if_pos rfl, if_pos rfl]
    · have ny : ¬ nI y = -1 := nI_n1 (by have := hy.2.2.2; omega)
      have p3 : p + 3 ≤ n := hy.1
      obtain ⟨h7, e7⟩ : ∃ h7, h7 = ph_i (ph_i (ph_i h5 5 10 (nI (sp + (p + 3)))) 8 k (nI y)) 9 k 0 := ⟨_, rfl⟩
      have C7 : CF g sp n h7 (p + 3) := by rw [e7]; exact cf_w (cf_w (cf_5 C5 p3) (Or.inr (Or.inr (Or.inl rfl)))) (Or.inr (Or.inr (Or.inr rfl)))
      have K7 : CC h h7 k := by rw [e7]; exact cc_w (cc_w (cc_5 K5) (Or.inr (Or.inr (Or.inl rfl)))) (Or.inr (Or.inr (Or.inr rfl)))
      have u6 : h7.1 6 k = nI a := by rw [e7, pr_ne (by decide), pr_ne (by decide), pr_ne (by decide)]; exact v6
      have u7 : h7.1 7 k = nI b := by rw [e7, pr_ne (by decide), pr_ne (by decide), pr_ne (by decide)]; exact v7
      have u8 : h7.1 8 k = nI y := by rw [e7, pr_ne (by decide), pr_eq, if_pos rfl]
      have u9 : h7.1 9 k = 0 := by rw [e7, pr_eq, if_pos rfl]
      rw [c_e1 (q := p + 3) hsp C5 rfl hy, pu_b2, pu_gn hk (by decide), pu_lt, pu_gn hk (by decide), pr_eq, if_pos rfl, if_neg ny, pu_gn hk (by decide), pu_lt]
      rw [← e7]
      clear e7
      refine ⟨fun hD hno => ?_, fun q d hqd => ?_⟩
      · have p4 : p + 4 ≤ n := hD.1
        refine ⟨ph_i (ph_i h7 5 10 (nI (sp + (p + 4)))) 9 k (-1), ?_, cf_w (cf_5 C7 p4) (Or.inr (Or.inr (Or.inr rfl))), cc_w (cc_5 K7) (Or.inr (Or.inr (Or.inr rfl)))⟩
        unfold rd_tail
        rw [c_s1q (q := p + 4) hsp C7 rfl hD, pu_b2, if_neg (show ¬ (1 : Int32) = 0 by decide), c_e0 hsp (cf_5 C7 p4) hno, pu_b2, pu_gn hk (by decide), pu_lt, pu_gn hk (by decide), pr_eq, if_pos rfl, if_pos rfl]
      · rcases hqd with ⟨hD, rfl, rfl⟩ | ⟨hD, hd, rfl⟩
        · refine ⟨h7, ?_, C7, K7, u6, u7, u8, u9⟩
          unfold rd_tail
          rw [c_s0 hsp C7 hD, pu_b2, if_pos (show (0 : Int32) = 0 from rfl), pu_gn hk (by decide), u9, if_neg (show ¬ (0 : Int32) = -1 by decide)]
        · have p4 : p + 4 ≤ n := hD.1
          have p5 : p + 5 ≤ n := hd.1
          have nd : ¬ nI d = -1 := nI_n1 (by have := hd.2.2.2; omega)
          refine ⟨ph_i (ph_i (ph_i h7 5 10 (nI (sp + (p + 4)))) 5 10 (nI (sp + (p + 5)))) 9 k (nI d), ?_, cf_w (cf_5 (cf_5 C7 p4) p5) (Or.inr (Or.inr (Or.inr rfl))), cc_w (cc_5 (cc_5 K7)) (Or.inr (Or.inr (Or.inr rfl))), ?_, ?_, ?_, ?_⟩
          · unfold rd_tail
            rw [c_s1q (q := p + 4) hsp C7 rfl hD, pu_b2, if_neg (show ¬ (1 : Int32) = 0 by decide), c_e1 (q := p + 5) hsp (cf_5 C7 p4) rfl hd, pu_b2, pu_gn hk (by decide), pu_lt, pu_gn hk (by decide), pr_eq, if_pos rfl, if_neg nd]
          · rw [pr_ne (by decide), pr_ne (by decide), pr_ne (by decide)]; exact u6
          · rw [pr_ne (by decide), pr_ne (by decide), pr_ne (by decide)]; exact u7
          · rw [pr_ne (by decide), pr_ne (by decide), pr_ne (by decide)]; exact u8
          · rw [pr_eq, if_pos rfl]
  refine ⟨fun q hF => ?_, fun q a b y d hS => ?_⟩
  · rcases hF with ⟨h1, rfl⟩ | ⟨a, ha, ⟨h1, rfl⟩ | ⟨b, hb, hba, ⟨h1, rfl⟩ | ⟨y, hy, hD, h1, rfl⟩⟩⟩
    · exact ⟨_, f1 h1, cf_w hc (Or.inl rfl), cc_w (cc_0 h k) (Or.inl rfl)⟩
    · obtain ⟨h2, C2, K2, r6, r4, hn, _⟩ := f2 a ha
      exact hn h1
    · exact (f3 a b ha hb hba).1 h1
    · exact ((f3 a b ha hb hba).2 y hy).1 hD h1
  · obtain ⟨ha, hb, hba, hy, hqd⟩ := hS
    exact ((f3 a b ha hb hba).2 y hy).2 q d hqd
/-- the reference's run, with its sign -/
def MC (h0 h : PH) (k : Nat) : Prop := (∀ j, 11 ≤ j → j ≤ 12 → h.1 43 j = h0.1 43 j) ∧ ∀ j, j ≠ k → h.1 49 j = h0.1 49 j ∧ h.1 50 j = h0.1 50 j ∧ h.1 51 j = h0.1 51 j ∧ h.1 52 j = h0.1 52 j
theorem mc_0 (h : PH) (k : Nat) : MC h h k := ⟨fun _ _ _ => rfl, fun _ _ => ⟨rfl, rfl, rfl, rfl⟩⟩
theorem mc_j {h0 h : PH} {k i : Nat} {v : Int32} (hc : MC h0 h k) (hi : i < 11 ∨ 12 < i) : MC h0 (ph_i h 43 i v) k := by
  refine ⟨fun j hj hj2 => ?_, fun j hj => ?_⟩
  · rw [pr_eq, if_neg (by omega)]; exact hc.1 j hj hj2
  · rw [pr_ne (by decide), pr_ne (by decide), pr_ne (by decide), pr_ne (by decide)]; exact hc.2 j hj
theorem mc_w {h0 h : PH} {k a : Nat} {v : Int32} (hc : MC h0 h k) (ha : a = 49 ∨ a = 50 ∨ a = 51 ∨ a = 52) : MC h0 (ph_i h a k v) k := by
  refine ⟨fun j hj hj2 => ?_, fun j hj => ?_⟩
  · rw [pr_ne (by omega)]; exact hc.1 j hj hj2
  · have : ∀ b, (ph_i h a k v).1 b j = h.1 b j := by
      intro b
      by_cases hb : b = a
      · subst hb; rw [pr_eq, if_neg hj]
      · rw [pr_ne hb]
    rw [this, this, this, this]
    exact hc.2 j hj
theorem m_t1q {g h : PH} {sp n p q : Nat} {code : Int32} (hsp : sp + n ≤ 400) (hc : MF g sp n h p) (he : q = p + 1) (hq : p < n ∧ g.1 69 (sp + p) = code) : f_X12_takes code (nI sp) (nI n) h = some (1, ph_i h 43 9 (nI q)) := by
  subst he
  exact m_t1 hsp hc hq
theorem m_f1q {g h : PH} {sp n p lo hi d q : Nat} {but : Int32} (hsp : sp + n ≤ 400) (hc : MF g sp n h p) (he : q = p + 1) (hh : hi ≤ 9) (hd : dgt (fun i => g.1 69 (sp + i)) n p lo hi d) (hb : ¬ nI d = but) : f_X12_readsFigure (nI sp) (nI n) (nI lo) (nI hi) but h = some (1, ph_i (ph_i h 43 10 (nI d)) 43 9 (nI q)) := by
  subst he
  exact m_f1 hsp hc hh hd hb
theorem n9_of {d : Nat} (h : d < 2 ^ 31) : ¬ nI d = -9 := by
  have := nI_ng h (show 0 < 9 by decide) (show 9 < 2 ^ 31 by decide)
  intro q
  rw [← this]
  exact q
theorem m_run {g h : PH} {sp n p P k : Nat} (hsp : sp + n ≤ 400) (hc : MF g sp n h p) (h11 : h.1 43 11 = nI P) (h13 : h.1 43 13 = nI k) (hP : 2 ≤ P ∧ P ≤ 8) (hk : k < 14) (hsg : p < n ∧ g.1 69 (sp + p) = 59) : (∀ q, RunF (fun i => g.1 69 (sp + i)) n P (p + 1) q → ∃ h2, f_X12_readsRun (nI sp) (nI n) h = some (0, h2) ∧ MF g sp n h2 q) ∧ ∀ q a b y d, RunS (fun i => g.1 69 (sp + i)) n P (p + 1) q a b y d → ∃ h2, f_X12_readsRun (nI sp) (nI n) h = some (1, h2) ∧ MF g sp n h2 q ∧ MC h h2 k ∧ h2.1 43 13 = nI (k + 1) ∧ h2.1 49 k = nI a ∧ h2.1 50 k = nI b ∧ h2.1 51 k = nI y ∧ h2.1 52 k = nI d := by
  have hck : (nI k).toNatClampNeg = k := nI_clamp (by omega)
  have e4 : nI P - 1 = nI (P - 1) := by
    show nI P - nI 1 = _
    rw [nI_sub (by omega)]
  have nk : ¬ nI k = 14 := fun q => by have := nI_inj (show nI k = nI 14 from q) (by omega) (by omega); omega
  obtain ⟨s1, es1⟩ : ∃ s1, s1 = ph_i h 43 9 (nI (p + 1)) := ⟨_, rfl⟩
  have M1 : MF g sp n s1 (p + 1) := by rw [es1]; exact mf_9 hc hsg.1
  have K1 : MC h s1 k := by rw [es1]; exact mc_j (mc_0 h k) (by omega)
  have a11 : s1.1 43 11 = nI P := by rw [es1, pr_eq, if_neg (by decide)]; exact h11
  have a13 : s1.1 43 13 = nI k := by rw [es1, pr_eq, if_neg (by decide)]; exact h13
  -- first figure
  have go1 : f_X12_readsRun (nI sp) (nI n) h = bd_2 (f_X12_readsFigure (nI sp) (nI n) (nI 0) (nI (P - 1)) (-9) s1) fun r_3 h_4 =>
      if r_3 = 0 then some (0, h_4) else (
      ga_i (h_4.1 43 13) 14 (
      lt_b (ph_i h_4 49 (h_4.1 43 13).toNatClampNeg (h_4.1 43 10)) fun h_6 =>
      ga_i (h_6.1 43 13) 14 (
      bd_2 (f_X12_readsFigure (nI sp) (nI n) 0 ((h_6.1 43 11) - 1) (h_6.1 49 (h_6.1 43 13).toNatClampNeg) h_6) fun r_8 h_9 =>
      if r_8 = 0 then (
      some (0, h_9))
      else (
      ga_i (h_9.1 43 13) 14 (
      lt_b (ph_i h_9 50 (h_9.1 43 13).toNatClampNeg (h_9.1 43 10)) fun h_11 =>
      bd_2 (f_X12_readsFigure (nI sp) (nI n) 1 9 (-9) h_11) fun r_12 h_13 =>
      if r_12 = 0 then (
      some (0, h_13))
      else (
      ga_i (h_13.1 43 13) 14 (
      lt_b (ph_i h_13 51 (h_13.1 43 13).toNatClampNeg (h_13.1 43 10)) fun h_15 =>
      ga_i (h_15.1 43 13) 14 (
      lt_b (ph_i h_15 52 (h_15.1 43 13).toNatClampNeg 0) fun h_17 =>
      bd_2 (f_X12_takes 100 (nI sp) (nI n) h_17) fun r_18 h_19 =>
      if r_18 = 0 then (
      lt_b (ph_i h_19 43 13 ((h_19.1 43 13) + 1)) fun h_20 =>
      some (1, h_20))
      else (
      bd_2 (f_X12_readsFigure (nI sp) (nI n) 1 9 (-9) h_19) fun r_21 h_22 =>
      if r_21 = 0 then (
      some (0, h_22))
      else (
      ga_i (h_22.1 43 13) 14 (
      lt_b (ph_i h_22 52 (h_22.1 43 13).toNatClampNeg (h_22.1 43 10)) fun h_24 =>
      lt_b (ph_i h_24 43 13 ((h_24.1 43 13) + 1)) fun h_25 =>
      some (1, h_25)))))))))))) := by
    unfold f_X12_readsRun
    rw [h13, if_neg nk, m_t1q (q := p + 1) hsp hc rfl hsg, pu_b2, if_neg (show ¬ (1 : Int32) = 0 by decide), ← es1, a11, e4]
    rfl
  rw [go1]
  clear go1
  by_cases h1 : ∃ a, dgt (fun i => g.1 69 (sp + i)) n (p + 1) 0 (P - 1) a
  rotate_left
  · obtain ⟨v, hv⟩ := m_f0 (lo := 0) (hi := P - 1) (but := -9) hsp M1 (by omega) (by omega) (fun ⟨d, hd, _⟩ => h1 ⟨d, hd⟩)
    refine ⟨fun q hF => ⟨ph_i s1 43 10 v, ?_, ?_⟩, fun q a b y d hS => absurd ⟨a, hS.1⟩ h1⟩
    · rw [hv, pu_b2, if_pos (show (0 : Int32) = 0 from rfl)]
    · rcases hF with ⟨_, rfl⟩ | ⟨a, ha, _⟩
      · exact mf_j M1 (by omega)
      · exact absurd ⟨a, ha⟩ h1
  obtain ⟨a, ha⟩ := h1
  have ha7 : a ≤ 7 := by have := ha.2.2.2; omega
  have ua : ∀ a2, dgt (fun i => g.1 69 (sp + i)) n (p + 1) 0 (P - 1) a2 → a2 = a := by
    intro a2 h2
    have e1 := ha.2.1
    have e2 := h2.2.1
    have b2 := h2.2.2.2
    rw [e1] at e2
    have := nI_inj e2 (by omega) (by omega)
    omega
  obtain ⟨s2, es2⟩ : ∃ s2, s2 = ph_i (ph_i (ph_i s1 43 10 (nI a)) 43 9 (nI (p + 2))) 49 k (nI a) := ⟨_, rfl⟩
  have p2 : p + 2 ≤ n := ha.1
  have M2 : MF g sp n s2 (p + 2) := by rw [es2]; exact mf_w (mf_9 (mf_j M1 (by omega)) p2) (Or.inl rfl)
  have K2 : MC h s2 k := by rw [es2]; exact mc_w (mc_j (mc_j K1 (by omega)) (by omega)) (Or.inl rfl)
  have b11 : s2.1 43 11 = nI P := by rw [es2, pr_ne (by decide), pr_eq, if_neg (by decide), pr_eq, if_neg (by decide)]; exact a11
  have b13 : s2.1 43 13 = nI k := by rw [es2, pr_ne (by decide), pr_eq, if_neg (by decide), pr_eq, if_neg (by decide)]; exact a13
  have b49 : s2.1 49 k = nI a := by rw [es2, pr_eq, if_pos rfl]
  have x13 : (ph_i (ph_i s1 43 10 (nI a)) 43 9 (nI (p + 2))).1 43 13 = nI k := by rw [pr_eq, if_neg (by decide), pr_eq, if_neg (by decide)]; exact a13
  have x10 : (ph_i (ph_i s1 43 10 (nI a)) 43 9 (nI (p + 2))).1 43 10 = nI a := by rw [pr_eq, if_neg (by decide), pr_eq, if_pos rfl]
  rw [m_f1q (q := p + 2) hsp M1 rfl (by omega) ha (n9_of (by omega)), pu_b2, if_neg (show ¬ (1 : Int32) = 0 by decide), x13, x10, pu_gn hk (by decide), hck, pu_lt, ← es2, b13, pu_gn hk (by decide), hck, b11, e4, b49]
  clear es2 x13 x10
  -- second figure
  by_cases h2 : ∃ b, dgt (fun i => g.1 69 (sp + i)) n (p + 1 + 1) 0 (P - 1) b ∧ b ≠ a
  rotate_left
  · obtain ⟨v, hv⟩ := m_f0 (lo := 0) (hi := P - 1) (but := nI a) hsp M2 (by omega) (by omega) (fun ⟨d, hd, hda⟩ => h2 ⟨d, hd, fun q => hda (by rw [q])⟩)
    refine ⟨fun q hF => ⟨ph_i s2 43 10 v, ?_, ?_⟩, fun q a2 b y d hS => ?_⟩
    · rw [show (0 : Int32) = nI 0 from rfl, hv, pu_b2, if_pos (show (0 : Int32) = nI 0 from rfl)]
    · rcases hF with ⟨hn, _⟩ | ⟨a2, ha2, ⟨_, rfl⟩ | ⟨b, hb, hba, _⟩⟩
      · exact absurd ⟨a, ha⟩ hn
      · exact mf_j M2 (by omega)
      · rw [ua a2 ha2] at hba
        exact absurd ⟨b, hb, hba⟩ h2
    · have := ua a2 hS.1
      exact absurd ⟨b, hS.2.1, by rw [← this]; exact hS.2.2.1⟩ h2
  obtain ⟨b, hb, hba⟩ := h2
  have hb7 : b ≤ 7 := by have := hb.2.2.2; omega
  have ub : ∀ b2, dgt (fun i => g.1 69 (sp + i)) n (p + 1 + 1) 0 (P - 1) b2 → b2 = b := by
    intro b2 h2
    have e1 := hb.2.1
    have e2 := h2.2.1
    have b2 := h2.2.2.2
    rw [e1] at e2
    have := nI_inj e2 (by omega) (by omega)
    omega
  obtain ⟨s3, es3⟩ : ∃ s3, s3 = ph_i (ph_i (ph_i s2 43 10 (nI b)) 43 9 (nI (p + 3))) 50 k (nI b) := ⟨_, rfl⟩
  have p3 : p + 3 ≤ n := hb.1
  have M3 : MF g sp n s3 (p + 3) := by rw [es3]; exact mf_w (mf_9 (mf_j M2 (by omega)) p3) (Or.inr (Or.inl rfl))
  have K3 : MC h s3 k := by rw [es3]; exact mc_w (mc_j (mc_j K2 (by omega)) (by omega)) (Or.inr (Or.inl rfl))
  have c13 : s3.1 43 13 = nI k := by rw [es3, pr_ne (by decide), pr_eq, if_neg (by decide), pr_eq, if_neg (by decide)]; exact b13
  have c49 : s3.1 49 k = nI a := by rw [es3, pr_ne (by decide), pr_ne (by decide), pr_ne (by decide)]; exact b49
  have c50 : s3.1 50 k = nI b := by rw [es3, pr_eq, if_pos rfl]
  have y13 : (ph_i (ph_i s2 43 10 (nI b)) 43 9 (nI (p + 3))).1 43 13 = nI k := by rw [pr_eq, if_neg (by decide), pr_eq, if_neg (by decide)]; exact b13
  have y10 : (ph_i (ph_i s2 43 10 (nI b)) 43 9 (nI (p + 3))).1 43 10 = nI b := by rw [pr_eq, if_neg (by decide), pr_eq, if_pos rfl]
  have fig2 : f_X12_readsFigure (nI sp) (nI n) 0 (nI (P - 1)) (nI a) s2 = some (1, ph_i (ph_i s2 43 10 (nI b)) 43 9 (nI (p + 3))) := m_f1q (lo := 0) (q := p + 3) hsp M2 rfl (by omega) hb (fun q => hba (nI_inj q (by omega) (by omega)))
  rw [fig2, pu_b2, if_neg (show ¬ (1 : Int32) = 0 by decide), y13, y10, pu_gn hk (by decide), hck, pu_lt, ← es3]
  clear es3 y13 y10 fig2
  -- yards
  by_cases h3 : ∃ y, dgt (fun i => g.1 69 (sp + i)) n (p + 1 + 2) 1 9 y
  rotate_left
  · obtain ⟨v, hv⟩ := m_f0 (lo := 1) (hi := 9) (but := -9) hsp M3 (by omega) (by omega) (fun ⟨d, hd, _⟩ => h3 ⟨d, hd⟩)
    have hv' : f_X12_readsFigure (nI sp) (nI n) 1 9 (-9) s3 = some (0, ph_i s3 43 10 v) := hv
    refine ⟨fun q hF => ⟨ph_i s3 43 10 v, ?_, ?_⟩, fun q a2 b2 y d hS => absurd ⟨y, hS.2.2.2.1⟩ h3⟩
    · rw [hv', pu_b2, if_pos (show (0 : Int32) = 0 from rfl)]
    · rcases hF with ⟨hn, _⟩ | ⟨a2, ha2, ⟨hn, _⟩ | ⟨b2, hb2, hba2, ⟨_, rfl⟩ | ⟨y, hy, _⟩⟩⟩
      · exact absurd ⟨a, ha⟩ hn
      · rw [ua a2 ha2] at hn
        exact absurd ⟨b, hb, hba⟩ hn
      · exact mf_j M3 (by omega)
      · exact absurd ⟨y, hy⟩ h3
  obtain ⟨y, hy⟩ := h3
  have hy9 : y ≤ 9 := hy.2.2.2
  have uy : ∀ b2, dgt (fun i => g.1 69 (sp + i)) n (p + 1 + 2) 1 9 b2 → b2 = y := by
    intro b2 h2
    have e1 := hy.2.1
    have e2 := h2.2.1
    have b2 := h2.2.2.2
    rw [e1] at e2
    have := nI_inj e2 (by omega) (by omega)
    omega
  obtain ⟨s4, es4⟩ : ∃ s4, s4 = ph_i (ph_i (ph_i s3 43 10 (nI y)) 43 9 (nI (p + 4))) 51 k (nI y) := ⟨_, rfl⟩
  obtain ⟨s5, es5⟩ : ∃ s5, s5 = ph_i s4 52 k 0 := ⟨_, rfl⟩
  have p4 : p + 4 ≤ n := hy.1
  have M4 : MF g sp n s4 (p + 4) := by rw [es4]; exact mf_w (mf_9 (mf_j M3 (by omega)) p4) (Or.inr (Or.inr (Or.inl rfl)))
  have K4 : MC h s4 k := by rw [es4]; exact mc_w (mc_j (mc_j K3 (by omega)) (by omega)) (Or.inr (Or.inr (Or.inl rfl)))
  have M5 : MF g sp n s5 (p + 4) := by rw [es5]; exact mf_w M4 (Or.inr (Or.inr (Or.inr rfl)))
  have K5 : MC h s5 k := by rw [es5]; exact mc_w K4 (Or.inr (Or.inr (Or.inr rfl)))
  have d13 : s4.1 43 13 = nI k := by rw [es4, pr_ne (by decide), pr_eq, if_neg (by decide), pr_eq, if_neg (by decide)]; exact c13
  have e13 : s5.1 43 13 = nI k := by rw [es5, pr_ne (by decide)]; exact d13
  have e49 : s5.1 49 k = nI a := by rw [es5, pr_ne (by decide), es4, pr_ne (by decide), pr_ne (by decide), pr_ne (by decide)]; exact c49
  have e50 : s5.1 50 k = nI b := by rw [es5, pr_ne (by decide), es4, pr_ne (by decide), pr_ne (by decide), pr_ne (by decide)]; exact c50
  have e51 : s5.1 51 k = nI y := by rw [es5, pr_ne (by decide), es4, pr_eq, if_pos rfl]
  have e52 : s5.1 52 k = 0 := by rw [es5, pr_eq, if_pos rfl]
  have z13 : (ph_i (ph_i s3 43 10 (nI y)) 43 9 (nI (p + 4))).1 43 13 = nI k := by rw [pr_eq, if_neg (by decide), pr_eq, if_neg (by decide)]; exact c13
  have z10 : (ph_i (ph_i s3 43 10 (nI y)) 43 9 (nI (p + 4))).1 43 10 = nI y := by rw [pr_eq, if_neg (by decide), pr_eq, if_pos rfl]
  have fig3 : f_X12_readsFigure (nI sp) (nI n) 1 9 (-9) s3 = some (1, ph_i (ph_i s3 43 10 (nI y)) 43 9 (nI (p + 4))) := m_f1q (lo := 1) (hi := 9) (q := p + 4) hsp M3 rfl (by omega) hy (n9_of (by omega))
  rw [fig3, pu_b2, if_neg (show ¬ (1 : Int32) = 0 by decide), z13, z10, pu_gn hk (by decide), hck, pu_lt, ← es4, d13, pu_gn hk (by decide), hck, pu_lt, ← es5]
  clear z13 z10 fig3 es5 es4
  -- drilled
  by_cases hD : p + 1 + 3 < n ∧ g.1 69 (sp + (p + 1 + 3)) = 100
  rotate_left
  · refine ⟨fun q hF => ?_, fun q a2 b2 y2 d hS => ?_⟩
    · exfalso
      rcases hF with ⟨hn, _⟩ | ⟨a2, ha2, ⟨hn, _⟩ | ⟨b2, hb2, hba2, ⟨hn, _⟩ | ⟨y2, hy2, hd2, _⟩⟩⟩
      · exact hn ⟨a, ha⟩
      · rw [ua a2 ha2] at hn
        exact hn ⟨b, hb, hba⟩
      · exact hn ⟨y, hy⟩
      · exact hD hd2
    · obtain ⟨r1, r2, r3, r4, r5⟩ := hS
      rcases r5 with ⟨_, rfl, rfl⟩ | ⟨hd2, _⟩
      · rw [ua a2 r1, ub b2 r2, uy y2 r4]
        refine ⟨ph_i s5 43 13 (nI (k + 1)), ?_, mf_j M5 (by omega), mc_j K5 (by omega), ?_, ?_, ?_, ?_, ?_⟩
        · rw [m_t0 hsp M5 hD, pu_b2, if_pos (show (0 : Int32) = 0 from rfl), pu_lt, e13, ← nI_succ]
        · rw [pr_eq, if_pos rfl]
        · rw [pr_ne (by decide)]; exact e49
        · rw [pr_ne (by decide)]; exact e50
        · rw [pr_ne (by decide)]; exact e51
        · rw [pr_ne (by decide)]; exact e52
      · exact absurd hd2 hD
  obtain ⟨s6, es6⟩ : ∃ s6, s6 = ph_i s5 43 9 (nI (p + 5)) := ⟨_, rfl⟩
  have p5 : p + 5 ≤ n := hD.1
  have M6 : MF g sp n s6 (p + 5) := by rw [es6]; exact mf_9 M5 p5
  have K6 : MC h s6 k := by rw [es6]; exact mc_j K5 (by omega)
  have f13 : s6.1 43 13 = nI k := by rw [es6, pr_eq, if_neg (by decide)]; exact e13
  have f49 : s6.1 49 k = nI a := by rw [es6, pr_ne (by decide)]; exact e49
  have f50 : s6.1 50 k = nI b := by rw [es6, pr_ne (by decide)]; exact e50
  have f51 : s6.1 51 k = nI y := by rw [es6, pr_ne (by decide)]; exact e51
  rw [m_t1q (q := p + 5) hsp M5 rfl hD, pu_b2, if_neg (show ¬ (1 : Int32) = 0 by decide), ← es6]
  clear es6
  by_cases h5 : ∃ d, dgt (fun i => g.1 69 (sp + i)) n (p + 1 + 4) 1 9 d
  rotate_left
  · obtain ⟨v, hv⟩ := m_f0 (lo := 1) (hi := 9) (but := -9) hsp M6 (by omega) (by omega) (fun ⟨d, hd, _⟩ => h5 ⟨d, hd⟩)
    have hv' : f_X12_readsFigure (nI sp) (nI n) 1 9 (-9) s6 = some (0, ph_i s6 43 10 v) := hv
    refine ⟨fun q hF => ⟨ph_i s6 43 10 v, ?_, ?_⟩, fun q a2 b2 y2 d hS => ?_⟩
    · rw [hv', pu_b2, if_pos (show (0 : Int32) = 0 from rfl)]
    · rcases hF with ⟨hn, _⟩ | ⟨a2, ha2, ⟨hn, _⟩ | ⟨b2, hb2, hba2, ⟨hn, _⟩ | ⟨y2, hy2, hd2, _, rfl⟩⟩⟩
      · exact absurd ⟨a, ha⟩ hn
      · rw [ua a2 ha2] at hn
        exact absurd ⟨b, hb, hba⟩ hn
      · exact absurd ⟨y, hy⟩ hn
      · exact mf_j M6 (by omega)
    · obtain ⟨r1, r2, r3, r4, r5⟩ := hS
      rcases r5 with ⟨hn, _⟩ | ⟨_, hd, _⟩
      · exact absurd hD hn
      · exact absurd ⟨d, hd⟩ h5
  obtain ⟨d, hd⟩ := h5
  have hd9 : d ≤ 9 := hd.2.2.2
  have ud : ∀ b2, dgt (fun i => g.1 69 (sp + i)) n (p + 1 + 4) 1 9 b2 → b2 = d := by
    intro b2 h2
    have e1 := hd.2.1
    have e2 := h2.2.1
    have b2 := h2.2.2.2
    rw [e1] at e2
    have := nI_inj e2 (by omega) (by omega)
    omega
  refine ⟨fun q hF => ?_, fun q a2 b2 y2 d2 hS => ?_⟩
  · exfalso
    rcases hF with ⟨hn, _⟩ | ⟨a2, ha2, ⟨hn, _⟩ | ⟨b2, hb2, hba2, ⟨hn, _⟩ | ⟨y2, hy2, hd2, hn, _⟩⟩⟩
    · exact hn ⟨a, ha⟩
    · rw [ua a2 ha2] at hn
      exact hn ⟨b, hb, hba⟩
    · exact hn ⟨y, hy⟩
    · exact hn ⟨d, hd⟩
  · obtain ⟨r1, r2, r3, r4, r5⟩ := hS
    rcases r5 with ⟨hn, _⟩ | ⟨_, hd2, rfl⟩
    · exact absurd hD hn
    · rw [ua a2 r1, ub b2 r2, uy y2 r4, ud d2 hd2]
      have p6 : p + 6 ≤ n := hd.1
      have fig5 : f_X12_readsFigure (nI sp) (nI n) 1 9 (-9) s6 = some (1, ph_i (ph_i s6 43 10 (nI d)) 43 9 (nI (p + 6))) := m_f1q (lo := 1) (hi := 9) (q := p + 6) hsp M6 rfl (by omega) hd (n9_of (by omega))
      have w13 : (ph_i (ph_i s6 43 10 (nI d)) 43 9 (nI (p + 6))).1 43 13 = nI k := by rw [pr_eq, if_neg (by decide), pr_eq, if_neg (by decide)]; exact f13
      have w10 : (ph_i (ph_i s6 43 10 (nI d)) 43 9 (nI (p + 6))).1 43 10 = nI d := by rw [pr_eq, if_neg (by decide), pr_eq, if_pos rfl]
      have v13 : (ph_i (ph_i (ph_i s6 43 10 (nI d)) 43 9 (nI (p + 6))) 52 k (nI d)).1 43 13 = nI k := by rw [pr_ne (by decide)]; exact w13
      refine ⟨ph_i (ph_i (ph_i (ph_i s6 43 10 (nI d)) 43 9 (nI (p + 6))) 52 k (nI d)) 43 13 (nI (k + 1)), ?_, ?_, ?_, ?_, ?_, ?_, ?_, ?_⟩
      · rw [fig5, pu_b2, if_neg (show ¬ (1 : Int32) = 0 by decide), w13, w10, pu_gn hk (by decide), hck, pu_lt, v13, pu_lt, ← nI_succ]
      · exact mf_j (mf_w (mf_9 (mf_j M6 (by omega)) p6) (Or.inr (Or.inr (Or.inr rfl)))) (by omega)
      · exact mc_j (mc_w (mc_j (mc_j K6 (by omega)) (by omega)) (Or.inr (Or.inr (Or.inr rfl)))) (by omega)
      · rw [pr_eq, if_pos rfl]
      · rw [pr_ne (by decide), pr_ne (by decide), pr_ne (by decide), pr_ne (by decide)]; exact f49
      · rw [pr_ne (by decide), pr_ne (by decide), pr_ne (by decide), pr_ne (by decide)]; exact f50
      · rw [pr_ne (by decide), pr_ne (by decide), pr_ne (by decide), pr_ne (by decide)]; exact f51
      · rw [pr_ne (by decide), pr_eq, if_pos rfl]
