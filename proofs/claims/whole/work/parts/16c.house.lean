def okr (P : Nat) (f t y d : Nat → Nat) (j : Nat) : Prop := f j < P ∧ t j < P ∧ f j ≠ t j ∧ 1 ≤ y j ∧ y j ≤ 9 ∧ d j ≤ 9
def CCd (g : PH) (sp n P B k : Nat) (f t y d : Nat → Nat) (p : Nat) (h : PH) : Prop := CF g sp n h p ∧ h.1 5 4 = nI P ∧ h.1 5 5 = nI B ∧ ∀ j, j < k → h.1 6 j = nI (f j) ∧ h.1 7 j = nI (t j) ∧ h.1 8 j = nI (y j) ∧ h.1 9 j = nI (d j)
def MCd (g : PH) (sp n P B k : Nat) (f t y d : Nat → Nat) (p : Nat) (h : PH) : Prop := MF g sp n h p ∧ h.1 43 11 = nI P ∧ h.1 43 12 = nI B ∧ h.1 43 13 = nI k ∧ ∀ j, j < k → h.1 49 j = nI (f j) ∧ h.1 50 j = nI (t j) ∧ h.1 51 j = nI (y j) ∧ h.1 52 j = nI (d j)
/-- the class's loop over runs ends wrong at q, or read -/
def CEf (g : PH) (sp n q : Nat) (o : Option ((Int32 × PH) ⊕ (Int32 × PH))) : Prop := ∃ h2, CF g sp n h2 q ∧ (o = some (.inl (0, h2)) ∨ ∃ x, o = some (.inr (x, h2)))
def CEs (g : PH) (sp n P B R : Nat) (f t y d : Nat → Nat) (o : Option ((Int32 × PH) ⊕ (Int32 × PH))) : Prop := ∃ h2, CCd g sp n P B R f t y d n h2 ∧ h2.1 5 6 = nI R ∧ o = some (.inl (1, h2))
def MEf (g : PH) (sp n q : Nat) (o : Option ((Int32 × PH) ⊕ PH)) : Prop := ∃ h2, MF g sp n h2 q ∧ o = some (.inr h2)
def MEs (g : PH) (sp n P B R : Nat) (f t y d : Nat → Nat) (o : Option ((Int32 × PH) ⊕ PH)) : Prop := ∃ h2, MCd g sp n P B R f t y d n h2 ∧ o = some (.inl (1, h2))
def st (f : Nat → Nat) (k v : Nat) : Nat → Nat := fun j => if j = k then v else f j
theorem st_e (f : Nat → Nat) (k v : Nat) : st f k v k = v := if_pos rfl
theorem st_n {f : Nat → Nat} {k v j : Nat} (h : j ≠ k) : st f k v j = f j := if_neg h
theorem runs_both {g gm : PH} {sp n P B : Nat} (hsp : sp + n ≤ 400) (hT : ∀ i, gm.1 69 (sp + i) = g.1 4 (sp + i)) (hP : 2 ≤ P ∧ P ≤ 8) : ∀ (m k p : Nat) (f t y d : Nat → Nat), m + k = 14 → (k = 0 ∨ p < n) → (∀ j, j < k → okr P f t y d j) → (∃ q, q ≤ n ∧ (∀ h, CCd g sp n P B k f t y d p h → ∀ F, m < F → CEf g sp n q (lp_f (fun s => lb_X10_areRunsRead_2 s.1 s.2) F (nI k, h))) ∧ ∀ h, MCd gm sp n P B k f t y d p h → ∀ F, m + 1 < F → MEf gm sp n q (lp_f (fun s => lb_X12_readsHouse_95 (nI sp) (nI n) s) F h)) ∨ ∃ R f2 t2 y2 d2, 1 ≤ R ∧ R ≤ 14 ∧ (∀ j, j < R → okr P f2 t2 y2 d2 j) ∧ (∀ h, CCd g sp n P B k f t y d p h → ∀ F, m < F → CEs g sp n P B R f2 t2 y2 d2 (lp_f (fun s => lb_X10_areRunsRead_2 s.1 s.2) F (nI k, h))) ∧ ∀ h, MCd gm sp n P B k f t y d p h → ∀ F, m + 1 < F → MEs gm sp n P B R f2 t2 y2 d2 (lp_f (fun s => lb_X12_readsHouse_95 (nI sp) (nI n) s) F h) := by
  have eT : (fun i => gm.1 69 (sp + i)) = fun i => g.1 4 (sp + i) := funext hT
  have loopm : ∀ (k p : Nat) (h : PH), h.1 43 13 = nI k → k ≤ 14 → h.1 43 9 = nI p → p ≤ n → (k = 0 ∨ p < n) → lb_X12_readsHouse_95 (nI sp) (nI n) h = bd_2 (f_X12_readsRun (nI sp) (nI n) h) fun r_23 h_24 => if r_23 = 0 then some (.inr (.inr h_24)) else some (.inl h_24) := by
    intro k p h h13 hk14 h9 hpn hkp
    unfold lb_X12_readsHouse_95
    by_cases hk0 : k = 0
    · subst hk0
      rw [h13, if_pos (show nI 0 = 0 from rfl)]
    · rw [h13, if_neg (nI_ne0 (by omega) (by omega)), h9, if_neg (nI_ge (show p < n by omega) (by omega))]
  intro m
  induction m with
  | zero =>
    intro k p f t y d hmk hkp hok
    have hk14 : k = 14 := by omega
    subst hk14
    by_cases hpn : p ≤ n
    · refine Or.inl ⟨p, hpn, fun h hc F hF => ?_, fun h hc F hF => ?_⟩
      · obtain ⟨F, rfl⟩ : ∃ F', F = F' + 1 := ⟨F - 1, by omega⟩
        refine ⟨h, hc.1, Or.inr ⟨nI 14, ?_⟩⟩
        refine lp_r ?_
        show lb_X10_areRunsRead_2 (nI 14) h = _
        unfold lb_X10_areRunsRead_2
        rw [if_pos (show (14 : Int32) ≤ nI 14 by decide)]
      · obtain ⟨F, rfl⟩ : ∃ F', F = F' + 1 := ⟨F - 1, by omega⟩
        obtain ⟨c1, c2, c3, c4, c5⟩ := hc
        refine ⟨h, c1, ?_⟩
        refine lp_r ?_
        show lb_X12_readsHouse_95 (nI sp) (nI n) h = _
        rw [loopm 14 p h c4 (by omega) c1.2.2.2.1 c1.2.2.2.2 hkp]
        unfold f_X12_readsRun
        rw [c4, if_pos (show nI 14 = 14 from rfl), pu_b2, if_pos (show (0 : Int32) = 0 from rfl)]
    · refine Or.inl ⟨n, Nat.le_refl _, fun h hc => absurd hc.1.2.2.2.2.2.2 hpn, fun h hc => absurd hc.1.2.2.2.2 hpn⟩
  | succ m ih =>
    intro k p f t y d hmk hkp hok
    have hk : k < 14 := by omega
    by_cases hpn : p ≤ n
    rotate_left
    · exact Or.inl ⟨n, Nat.le_refl _, fun h hc => absurd hc.1.2.2.2.2.2.2 hpn, fun h hc => absurd hc.1.2.2.2.2 hpn⟩
    by_cases hsg : p < n ∧ g.1 4 (sp + p) = 59
    rotate_left
    · -- no sign
      refine Or.inl ⟨p, hpn, fun h hc F hF => ?_, fun h hc F hF => ?_⟩
      · obtain ⟨F, rfl⟩ : ∃ F', F = F' + 1 := ⟨F - 1, by omega⟩
        refine ⟨h, hc.1, Or.inl ?_⟩
        refine lp_r ?_
        show lb_X10_areRunsRead_2 (nI k) h = _
        unfold lb_X10_areRunsRead_2
        rw [if_neg (show ¬ (14 : Int32) ≤ nI k from nI_ge hk (by decide)), c_s0 hsp hc.1 hsg, pu_b2, if_pos (show (0 : Int32) = 0 from rfl)]
      · obtain ⟨F, rfl⟩ : ∃ F', F = F' + 1 := ⟨F - 1, by omega⟩
        obtain ⟨c1, c2, c3, c4, c5⟩ := hc
        refine ⟨h, c1, ?_⟩
        refine lp_r ?_
        show lb_X12_readsHouse_95 (nI sp) (nI n) h = _
        rw [loopm k p h c4 (by omega) c1.2.2.2.1 c1.2.2.2.2 hkp]
        unfold f_X12_readsRun
        rw [c4, if_neg (fun q => by have := nI_inj (show nI k = nI 14 from q) (by omega) (by omega); omega), m_t0 hsp c1 (by rw [hT p]; exact hsg), pu_b2, if_pos (show (0 : Int32) = 0 from rfl), pu_b2, if_pos (show (0 : Int32) = 0 from rfl)]
    have hsgm : p < n ∧ gm.1 69 (sp + p) = 59 := by rw [hT p]; exact hsg
    -- class: behind the sign
    have clg : ∀ h, CCd g sp n P B k f t y d p h → CCd g sp n P B k f t y d (p + 1) (ph_i h 5 10 (nI (sp + (p + 1)))) ∧ lb_X10_areRunsRead_2 (nI k) h = bd_2 (f_X10_isRunRead (nI k) (ph_i h 5 10 (nI (sp + (p + 1))))) fun r_13 h_14 => if r_13 = 0 then some (.inr (.inl (0, h_14))) else lt_b (ph_i h_14 5 6 (nI k + 1)) fun h_15 => if h_15.1 5 10 < h_15.1 5 9 then lt_b (nI k + 1) fun x1_16 => some (.inl (x1_16, h_15)) else some (.inr (.inl (1, h_15))) := by
      intro h hc
      obtain ⟨c1, c2, c3, c4⟩ := hc
      refine ⟨⟨cf_5 c1 hsg.1, by rw [pr_eq, if_neg (by decide)]; exact c2, by rw [pr_eq, if_neg (by decide)]; exact c3, fun j hj => by rw [pr_ne (by decide), pr_ne (by decide), pr_ne (by decide), pr_ne (by decide)]; exact c4 j hj⟩, ?_⟩
      unfold lb_X10_areRunsRead_2
      rw [if_neg (show ¬ (14 : Int32) ≤ nI k from nI_ge hk (by decide)), c_s1 hsp c1 hsg, pu_b2, if_neg (show ¬ (1 : Int32) = 0 by decide)]
    rcases run_tot (fun i => g.1 4 (sp + i)) n P (p + 1) with ⟨q, a, b, yy, dd, hS⟩ | ⟨q, hF⟩
    rotate_left
    · -- a run that is wrong
      have hqn : q ≤ n := by
        rcases hF with ⟨_, rfl⟩ | ⟨a, ha, ⟨_, rfl⟩ | ⟨b, hb, _, ⟨_, rfl⟩ | ⟨y, hy, hD, _, rfl⟩⟩⟩
        · have := hsg.1; omega
        · have := ha.1; omega
        · have := hb.1; omega
        · have := hD.1; omega
      refine Or.inl ⟨q, hqn, fun h hc F hF2 => ?_, fun h hc F hF2 => ?_⟩
      · obtain ⟨F, rfl⟩ : ∃ F', F = F' + 1 := ⟨F - 1, by omega⟩
        obtain ⟨hc1, hgo⟩ := clg h hc
        obtain ⟨h2, r1, r2, r3⟩ := (c_run hsp hc1.1 hc1.2.1 hP hk).1 q hF
        refine ⟨h2, r2, Or.inl ?_⟩
        refine lp_r ?_
        show lb_X10_areRunsRead_2 (nI k) h = _
        rw [hgo, r1, pu_b2, if_pos (show (0 : Int32) = 0 from rfl)]
      · obtain ⟨F, rfl⟩ : ∃ F', F = F' + 1 := ⟨F - 1, by omega⟩
        obtain ⟨c1, c2, c3, c4, c5⟩ := hc
        obtain ⟨h2, r1, r2⟩ := (m_run hsp c1 c2 c4 hP hk hsgm).1 q (by rw [eT]; exact hF)
        refine ⟨h2, r2, ?_⟩
        refine lp_r ?_
        show lb_X12_readsHouse_95 (nI sp) (nI n) h = _
        rw [loopm k p h c4 (by omega) c1.2.2.2.1 c1.2.2.2.2 hkp, r1, pu_b2, if_pos (show (0 : Int32) = 0 from rfl)]
    -- a run that is read
    have hqn : q ≤ n := by
      obtain ⟨_, _, _, hy, hqd⟩ := hS
      rcases hqd with ⟨_, rfl, _⟩ | ⟨_, hd, rfl⟩
      · have := hy.1; omega
      · have := hd.1; omega
    have hok2 : ∀ j, j < k + 1 → okr P (st f k a) (st t k b) (st y k yy) (st d k dd) j := by
      intro j hj
      by_cases hjk : j = k
      · subst hjk
        unfold okr
        rw [st_e, st_e, st_e, st_e]
        obtain ⟨ha, hb, hba, hy, hqd⟩ := hS
        have a3 := ha.2.2.2
        have b3 := hb.2.2.2
        refine ⟨by omega, by omega, fun q => hba q.symm, hy.2.2.1, hy.2.2.2, ?_⟩
        rcases hqd with ⟨_, _, rfl⟩ | ⟨_, hd, _⟩
        · omega
        · exact hd.2.2.2
      · unfold okr
        rw [st_n hjk, st_n hjk, st_n hjk, st_n hjk]
        exact hok j (by omega)
    have cl2 : ∀ h, CCd g sp n P B k f t y d p h → ∃ h2, CCd g sp n P B (k + 1) (st f k a) (st t k b) (st y k yy) (st d k dd) q h2 ∧ h2.1 5 6 = nI (k + 1) ∧ lb_X10_areRunsRead_2 (nI k) h = if q < n then some (.inl (nI (k + 1), h2)) else some (.inr (.inl (1, h2))) := by
      intro h hc
      obtain ⟨hc1, hgo⟩ := clg h hc
      obtain ⟨h2, r1, r2, r3, r4, r5, r6, r7⟩ := (c_run hsp hc1.1 hc1.2.1 hP hk).2 q a b yy dd hS
      refine ⟨ph_i h2 5 6 (nI (k + 1)), ⟨cf_4 r2 (by decide), ?_, ?_, fun j hj => ?_⟩, ?_, ?_⟩
      · rw [pr_eq, if_neg (by decide), r3.1 4 (by decide)]; exact hc1.2.1
      · rw [pr_eq, if_neg (by decide), r3.1 5 (by decide)]; exact hc1.2.2.1
      · rw [pr_ne (by decide), pr_ne (by decide), pr_ne (by decide), pr_ne (by decide)]
        by_cases hjk : j = k
        · subst hjk
          rw [st_e, st_e, st_e, st_e]
          exact ⟨r4, r5, r6, r7⟩
        · rw [st_n hjk, st_n hjk, st_n hjk, st_n hjk]
          obtain ⟨e1, e2, e3, e4⟩ := r3.2 j hjk
          rw [e1, e2, e3, e4]
          exact hc1.2.2.2 j (by omega)
      · rw [pr_eq, if_pos rfl]
      · have d9 : (ph_i h2 5 6 (nI (k + 1))).1 5 9 = nI (sp + n) := by rw [pr_eq, if_neg (by decide)]; exact r2.2.2.2.2.1
        have d10 : (ph_i h2 5 6 (nI (k + 1))).1 5 10 = nI (sp + q) := by rw [pr_eq, if_neg (by decide)]; exact r2.2.2.2.2.2.1
        rw [hgo, r1, pu_b2, if_neg (show ¬ (1 : Int32) = 0 by decide), ← nI_succ, pu_lt, d9, d10, pu_lt]
        by_cases hq : q < n
        · rw [if_pos hq, if_pos (nI_lt (by omega) (by omega))]
        · rw [if_neg hq, if_neg (nI_nlt (by omega) (by omega))]
    have md2 : ∀ h, MCd gm sp n P B k f t y d p h → ∃ h2, MCd gm sp n P B (k + 1) (st f k a) (st t k b) (st y k yy) (st d k dd) q h2 ∧ lb_X12_readsHouse_95 (nI sp) (nI n) h = some (.inl h2) := by
      intro h hc
      obtain ⟨c1, c2, c3, c4, c5⟩ := hc
      obtain ⟨h2, r1, r2, r3, r4, r5, r6, r7, r8⟩ := (m_run hsp c1 c2 c4 hP hk hsgm).2 q a b yy dd (by rw [eT]; exact hS)
      refine ⟨h2, ⟨r2, by rw [r3.1 11 (by decide) (by decide)]; exact c2, by rw [r3.1 12 (by decide) (by decide)]; exact c3, r4, fun j hj => ?_⟩, ?_⟩
      · by_cases hjk : j = k
        · subst hjk
          rw [st_e, st_e, st_e, st_e]
          exact ⟨r5, r6, r7, r8⟩
        · rw [st_n hjk, st_n hjk, st_n hjk, st_n hjk]
          obtain ⟨e1, e2, e3, e4⟩ := r3.2 j hjk
          rw [e1, e2, e3, e4]
          exact c5 j (by omega)
      · rw [loopm k p h c4 (by omega) c1.2.2.2.1 c1.2.2.2.2 hkp, r1, pu_b2, if_neg (show ¬ (1 : Int32) = 0 by decide)]
    by_cases hq : q < n
    · -- there is more
      rcases ih (k + 1) q (st f k a) (st t k b) (st y k yy) (st d k dd) (by omega) (Or.inr hq) hok2 with ⟨q2, hq2, i1, i2⟩ | ⟨R, f2, t2, y2, d2, hR, hR2, hok3, i1, i2⟩
      · refine Or.inl ⟨q2, hq2, fun h hc F hF => ?_, fun h hc F hF => ?_⟩
        · obtain ⟨F, rfl⟩ : ∃ F', F = F' + 1 := ⟨F - 1, by omega⟩
          obtain ⟨h2, s1, _, s2⟩ := cl2 h hc
          rw [if_pos hq] at s2
          rw [lp_s (s := (nI k, h)) (t := (nI (k + 1), h2)) s2]
          exact i1 h2 s1 F (by omega)
        · obtain ⟨F, rfl⟩ : ∃ F', F = F' + 1 := ⟨F - 1, by omega⟩
          obtain ⟨h2, s1, s2⟩ := md2 h hc
          rw [lp_s (s := h) (t := h2) s2]
          exact i2 h2 s1 F (by omega)
      · refine Or.inr ⟨R, f2, t2, y2, d2, hR, hR2, hok3, fun h hc F hF => ?_, fun h hc F hF => ?_⟩
        · obtain ⟨F, rfl⟩ : ∃ F', F = F' + 1 := ⟨F - 1, by omega⟩
          obtain ⟨h2, s1, _, s2⟩ := cl2 h hc
          rw [if_pos hq] at s2
          rw [lp_s (s := (nI k, h)) (t := (nI (k + 1), h2)) s2]
          exact i1 h2 s1 F (by omega)
        · obtain ⟨F, rfl⟩ : ∃ F', F = F' + 1 := ⟨F - 1, by omega⟩
          obtain ⟨h2, s1, s2⟩ := md2 h hc
          rw [lp_s (s := h) (t := h2) s2]
          exact i2 h2 s1 F (by omega)
    · -- the end
      have hqe : q = n := by omega
      subst hqe
      refine Or.inr ⟨k + 1, st f k a, st t k b, st y k yy, st d k dd, by omega, by omega, hok2, fun h hc F hF => ?_, fun h hc F hF => ?_⟩
      · obtain ⟨F, rfl⟩ : ∃ F', F = F' + 1 := ⟨F - 1, by omega⟩
        obtain ⟨h2, s1, s3, s2⟩ := cl2 h hc
        rw [if_neg hq] at s2
        exact ⟨h2, s1, s3, lp_r (s := (nI k, h)) s2⟩
      · obtain ⟨F, rfl⟩ : ∃ F', F = F' + 2 := ⟨F - 2, by omega⟩
        obtain ⟨h2, s1, s2⟩ := md2 h hc
        refine ⟨h2, s1, ?_⟩
        rw [lp_s (s := h) (t := h2) s2]
        refine lp_r ?_
        obtain ⟨c1, c2, c3, c4, c5⟩ := s1
        show lb_X12_readsHouse_95 (nI sp) (nI q) h2 = _
        unfold lb_X12_readsHouse_95
        rw [c4, if_neg (nI_ne0 (by omega) (by omega)), c1.2.2.2.1, if_pos (nI_le (Nat.le_refl _) (by omega))]
