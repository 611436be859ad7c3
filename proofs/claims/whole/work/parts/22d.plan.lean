/-! PLANS: the class's plan as a whole; plan, on -/
theorem Ty_B {D : Nat → Nat → Nat} {B C : Nat} {pl : Nat → Nat} : ∀ (n s a : Nat), s < 256 → pc s ≤ n → a ≠ 8 → Ty D B pl 0 s a = Ty D C pl 0 s a := by
  intro n
  induction n with
  | zero =>
    intro s a hs hpc ha
    have h0 : s = 0 := pc_0 hs (by omega)
    subst h0
    show Tl _ _ 0 a = Tl _ _ 0 a
    rw [Tl_0, Tl_0]
    rfl
  | succ n ih =>
    intro s a hs hpc ha
    by_cases h0 : s = 0
    · subst h0
      show Tl _ _ 0 a = Tl _ _ 0 a
      rw [Tl_0, Tl_0]
      rfl
    · show Tl _ _ s a = Tl _ _ s a
      rw [Tl_s _ _ hs h0, Tl_s _ _ hs h0]
      refine mnq_c 8 (fun q hq hb => ?_)
      have h1 := pc_rm hs hb
      have h2 := rm_le s q
      have h3 := ih (rm1 s q) q (by omega) (by omega) (by omega)
      have h4 : Gy D B pl a q = Gy D C pl a q := by
        unfold Gy
        rw [if_neg ha, if_neg ha]
      rw [h4]
      show _ + Ty D B pl 0 (rm1 s q) q = _ + Ty D C pl 0 (rm1 s q) q
      rw [h3]
theorem cW_B {h : PH} {D : Nat → Nat → Nat} {B C N i : Nat} {pl : Nat → Nat} (hN : N ≤ 8) (hi : i ≤ 2 ^ N) (hw : cW h D B pl 0 (2 ^ N - 1) i) : cW h D C pl 0 (2 ^ N - 1) i := by
  have h2 := p2_le hN
  intro s p hs hsw hwp hsp
  rw [hw s p hs hsw hwp hsp, Ty_B (C := C) 8 s p (by omega) (pc_le s) (by
    have := bit_lt (show 2 ^ N - 1 < 2 ^ N by have := Nat.two_pow_pos N; omega) hwp
    omega)]
theorem sub_all {N s : Nat} (hs : s < 2 ^ N) : sub s (2 ^ N - 1) := by
  intro p hp
  rw [Nat.testBit_two_pow_sub_one]
  exact decide_eq_true (bit_lt hs hp)
theorem c_sets {h : PH} {P N B : Nat} {D : Nat → Nat → Nat} {pl : Nat → Nat} (hD : ∀ a b, a < P → b < P → D a b < 100000 ∨ D a b = 1000000) (hB : B < P) (hpl : ∀ p, p < N → pl p < P) (hN : N ≤ 8) (ht : cT h N D B pl) (hw : cW h D B pl 0 (2 ^ N - 1) (2 ^ N - 1)) : ∃ g, f_X0_reckonSets (nI (2 ^ N - 1)) h = some ((), g) ∧ (∀ a, a ≠ 28 → g.1 a = h.1 a) ∧ g.2 = h.2 ∧ ∀ s, s < 2 ^ N → g.1 28 s = nI (ck (yv D B pl s)) := by
  have h2 := p2_le hN
  have hp := Nat.two_pow_pos N
  have hL : ∃ r, lp_f (fun s => lb_X0_reckonSets_6 (nI (2 ^ N - 1)) s.1 s.2) fu_l (1, ph_i h 28 0 0) = some r ∧ ((∀ a, a ≠ 28 → r.2.1 a = h.1 a) ∧ r.2.2 = h.2 ∧ ∀ s, s < 2 ^ N → r.2.1 28 s = nI (ck (yv D B pl s))) := by
    refine lp_0 (fun i t => t.1 = nI (i + 1) ∧ (∀ a, a ≠ 28 → t.2.1 a = h.1 a) ∧ t.2.2 = h.2 ∧ ∀ s, s < i + 1 → t.2.1 28 s = nI (ck (yv D B pl s))) _ (2 ^ N - 1) (by omega) ?_ ?_ _ ⟨rfl, fun a ha => pr_ne ha, rfl, fun s hs => ?_⟩
    · rintro i ⟨x, g⟩ hi ⟨e0, e1, e2, e3⟩
      left
      obtain rfl : x = nI (i + 1) := e0
      have e1 : ∀ a, a ≠ 28 → g.1 a = h.1 a := e1
      have gt : cT g N D B pl := by
        unfold cT
        rw [e1 24 (by decide), e1 25 (by decide)]
        exact ht
      have gw : cW g D B pl 0 (2 ^ N - 1) (2 ^ N - 1) := by
        unfold cW
        rw [e1 26 (by decide)]
        exact hw
      have lst := c_least (h := g) (a := 8) hD hB hpl hN gt (show i + 1 < 2 ^ N by omega) (by omega) (Or.inr rfl) (cW_at gw (by omega) (by omega) (sub_all (by omega)))
      have lst : f_X0_leastFrom (-1) (nI (i + 1)) g = some (nI (ck (yv D B pl (i + 1)))) := lst
      refine ⟨(nI (i + 1 + 1), ph_i g 28 (i + 1) (nI (ck (yv D B pl (i + 1))))), ?_, rfl, ?_, e2, ?_⟩
      · show lb_X0_reckonSets_6 (nI (2 ^ N - 1)) (nI (i + 1)) g = _
        unfold lb_X0_reckonSets_6 f_X0_leastFromBox
        rw [if_neg (nI_nlt (by omega) (by omega)), lst, pu_b1, pu_b1, pu_gn (show i + 1 < 256 by omega) (by decide), nI_clamp (by omega), pu_lt, pu_lt, ← nI_succ]
      · intro a ha
        show (ph_i g 28 (i + 1) _).1 a = _
        rw [pr_ne ha]
        exact e1 a ha
      · intro s hs
        show (ph_i g 28 (i + 1) _).1 28 s = _
        rw [pr_eq]
        by_cases hsi : s = i + 1
        · rw [if_pos hsi, hsi]
        · rw [if_neg hsi]; exact e3 s (by omega)
    · rintro ⟨x, g⟩ ⟨e0, e1, e2, e3⟩
      obtain rfl : x = nI (2 ^ N - 1 + 1) := e0
      refine ⟨(nI (2 ^ N - 1 + 1), g), ?_, e1, e2, fun s hs => e3 s (by omega)⟩
      show lb_X0_reckonSets_6 (nI (2 ^ N - 1)) (nI (2 ^ N - 1 + 1)) g = _
      unfold lb_X0_reckonSets_6
      rw [if_pos (nI_lt (by omega) (by omega))]
    · have : s = 0 := by omega
      subst this
      show (ph_i h 28 0 0).1 28 0 = _
      rw [pr_eq, if_pos rfl, yv_0, ck_s (Nat.zero_le _)]
      rfl
  obtain ⟨r, r1, r2⟩ := hL
  refine ⟨r.2, ?_, r2⟩
  unfold f_X0_reckonSets
  rw [show (ga_i (β := Unit × PH) 0 256) = ga_i (nI 0) 256 from rfl, pu_gn (by decide) (by decide), pu_lt, show (0 : Int32).toNatClampNeg = 0 from rfl, r1, pu_b1]
theorem c_rooms {h : PH} {N : Nat} {ld rm : Nat → Nat} (hc : cS h N ld rm) : ∃ g, f_X5_gatherRooms h = some ((), g) ∧ (∀ a, a ≠ 33 → g.1 a = h.1 a) ∧ g.2 = h.2 ∧ ∀ o, o < 6 → g.1 33 o = nI (rs N rm o) := by
  have hN := hc.1
  have hA : ∃ t, lp_f (fun s => lb_X5_gatherRooms_2 s.1 s.2) fu_l (0, h) = some t ∧ ((∀ a, a ≠ 33 → t.2.1 a = h.1 a) ∧ t.2.2 = h.2 ∧ ∀ x, x < 6 → t.2.1 33 x = nI 0) := by
    refine lp_0 (fun i t => t.1 = nI i ∧ (∀ a, a ≠ 33 → t.2.1 a = h.1 a) ∧ t.2.2 = h.2 ∧ ∀ x, x < i → t.2.1 33 x = nI 0) _ 6 (by omega) ?_ ?_ _ ⟨rfl, fun _ _ => rfl, rfl, fun x hx => by omega⟩
    · rintro i ⟨y, k⟩ hi ⟨e0, e1, e2, e3⟩
      left
      obtain rfl : y = nI i := e0
      refine ⟨(nI (i + 1), ph_i k 33 i 0), ?_, rfl, ?_, e2, ?_⟩
      · show lb_X5_gatherRooms_2 (nI i) k = _
        unfold lb_X5_gatherRooms_2
        rw [if_neg (show ¬ (6 : Int32) ≤ nI i from nI_ge (b := 6) hi (by decide)), pu_gn hi (by decide), nI_clamp (by omega), pu_lt, pu_lt, ← nI_succ]
      · intro a ha
        show (ph_i k 33 i 0).1 a = _
        rw [pr_ne ha]
        exact e1 a ha
      · intro x hx
        show (ph_i k 33 i 0).1 33 x = _
        rw [pr_eq]
        by_cases hxi : x = i
        · rw [if_pos hxi]; rfl
        · rw [if_neg hxi]; exact e3 x (by omega)
    · rintro ⟨y, k⟩ ⟨e0, e1, e2, e3⟩
      obtain rfl : y = nI 6 := e0
      refine ⟨(nI 6, k), ?_, e1, e2, e3⟩
      show lb_X5_gatherRooms_2 (nI 6) k = _
      unfold lb_X5_gatherRooms_2
      rw [if_pos (by decide)]
  obtain ⟨t, t1, t2, t3, t4⟩ := hA
  have hB : ∃ s, lp_f (fun s => lb_X5_gatherRooms_23 s.1 s.2) fu_l (0, t.2) = some s ∧ ((∀ a, a ≠ 33 → s.2.1 a = h.1 a) ∧ s.2.2 = h.2 ∧ ∀ o, o < 6 → s.2.1 33 o = nI (rs N rm o)) := by
    refine lp_0 (fun i s => s.1 = nI i ∧ (∀ a, a ≠ 33 → s.2.1 a = h.1 a) ∧ s.2.2 = h.2 ∧ ∀ o, o < 6 → s.2.1 33 o = nI (sf (fun p => decide (rm p = o)) i)) _ N (by omega) ?_ ?_ _ ⟨rfl, t2, t3, t4⟩
    · rintro i ⟨y, k⟩ hi ⟨e0, e1, e2, e3⟩
      left
      obtain rfl : y = nI i := e0
      have e1 : ∀ a, a ≠ 33 → k.1 a = h.1 a := e1
      have e3 : ∀ o, o < 6 → k.1 33 o = nI (sf (fun p => decide (rm p = o)) i) := e3
      have kc : cS k N ld rm := cS_fr hc (e1 17 (by decide)) (e1 19 (by decide)) (e1 20 (by decide))
      have ri := kc.2.2 i hi
      have hsl := sf_lt (fun p => decide (rm p = rm i)) i
      have h2i := p2_le (show i ≤ 8 by omega)
      refine ⟨(nI (i + 1), ph_i k 33 (rm i) (nI (sf (fun p => decide (rm p = rm i)) i ||| 2 ^ i))), ?_, rfl, ?_, e2, ?_⟩
      · show lb_X5_gatherRooms_23 (nI i) k = _
        unfold lb_X5_gatherRooms_23
        rw [kc.2.1, if_neg (nI_ge hi (by omega)), pu_gn (show i < 8 by omega) (by decide), nI_clamp (by omega), ri.2.2.1, pu_gn (show rm i < 6 by omega) (by decide), pu_gn (show rm i < 6 by omega) (by decide), nI_clamp (by omega), e3 _ (by omega), bt_o (by omega) (by omega), pu_lt, pu_lt, ← nI_succ]
      · intro a ha
        show (ph_i k 33 _ _).1 a = _
        rw [pr_ne ha]
        exact e1 a ha
      · intro o ho
        show (ph_i k 33 _ _).1 33 o = _
        rw [pr_eq]
        by_cases hq : o = rm i
        · rw [if_pos hq, hq, show sf (fun p => decide (rm p = rm i)) (i + 1) = sf (fun p => decide (rm p = rm i)) i ||| 2 ^ i from if_pos (by simp)]
        · rw [if_neg hq, e3 o ho, show sf (fun p => decide (rm p = o)) (i + 1) = sf (fun p => decide (rm p = o)) i from if_neg (by simp; exact fun z => hq z.symm)]
    · rintro ⟨y, k⟩ ⟨e0, e1, e2, e3⟩
      obtain rfl : y = nI N := e0
      have e1 : ∀ a, a ≠ 33 → k.1 a = h.1 a := e1
      refine ⟨(nI N, k), ?_, e1, e2, e3⟩
      show lb_X5_gatherRooms_23 (nI N) k = _
      unfold lb_X5_gatherRooms_23
      rw [e1 17 (by decide), hc.2.1, if_pos (nI_le (Nat.le_refl _) (by omega))]
  obtain ⟨s, s1, s2⟩ := hB
  refine ⟨s.2, ?_, s2⟩
  unfold f_X5_gatherRooms
  rw [t1, pu_b1, s1, pu_b1]
theorem c_ly {h : PH} {P N B w f : Nat} {D : Nat → Nat → Nat} {pl ld rm : Nat → Nat} {dv : Int32} {dk : Bool} (hn : nD P D) (hB : B < P) (hpl : ∀ p, p < N → pl p < P) (hc : cS h N ld rm) (hy : ∀ s, s < 2 ^ N → h.1 28 s = nI (ck (yv D B pl s))) (hw1 : 1 ≤ w) (hw : w ≤ 3) (hf : f ≤ 99) (hdv : dv = 0 ∨ dv = 1) (hdk : dk = !decide (dv = 0)) : ∃ g, f_X5_leastYards (nI w) (nI f) dv h = some (nI (bs (cP w N f dk ld rm (yv D B pl)) (w ^ N)).1, g) ∧ (∀ a, (a < 27 ∨ a = 28 ∨ 33 < a) → g.1 a = h.1 a) ∧ g.2 = h.2 ∧ pS g w N (cP w N f dk ld rm (yv D B pl)) (w ^ N) := by
  have hN := hc.1
  generalize hh : ph_i (ph_i (ph_i (ph_i h 27 7 (nI w)) 27 8 (nI f)) 27 9 dv) 27 6 1000000 = h5
  have a1 : ∀ a, a ≠ 27 → h5.1 a = h.1 a := fun a ha => by rw [← hh, pr_ne ha, pr_ne ha, pr_ne ha, pr_ne ha]
  have a7 : h5.1 27 7 = nI w := by rw [← hh, pr_eq, if_neg (by decide), pr_eq, if_neg (by decide), pr_eq, if_neg (by decide), pr_eq, if_pos rfl]
  have a8 : h5.1 27 8 = nI f := by rw [← hh, pr_eq, if_neg (by decide), pr_eq, if_neg (by decide), pr_eq, if_pos rfl]
  have a9 : h5.1 27 9 = dv := by rw [← hh, pr_eq, if_neg (by decide), pr_eq, if_pos rfl]
  have a6 : h5.1 27 6 = nI 1000000 := by rw [← hh, pr_eq, if_pos rfl]; rfl
  have a2 : h5.2 = h.2 := by rw [← hh]; rfl
  have hZ : ∃ t, lp_f (fun s => lb_X5_leastYards_25 s.1 s.2) fu_l (0, h5) = some t ∧ ((∀ a, a ≠ 31 → a ≠ 32 → t.2.1 a = h5.1 a) ∧ t.2.2 = h5.2 ∧ ∀ x, x < 3 → t.2.1 31 x = nI 0 ∧ t.2.1 32 x = nI 0) := by
    refine lp_0 (fun i t => t.1 = nI i ∧ (∀ a, a ≠ 31 → a ≠ 32 → t.2.1 a = h5.1 a) ∧ t.2.2 = h5.2 ∧ ∀ x, x < i → t.2.1 31 x = nI 0 ∧ t.2.1 32 x = nI 0) _ 3 (by omega) ?_ ?_ _ ⟨rfl, fun _ _ _ => rfl, rfl, fun x hx => by omega⟩
    · rintro i ⟨y, k⟩ hi ⟨e0, e1, e2, e3⟩
      left
      obtain rfl : y = nI i := e0
      refine ⟨(nI (i + 1), ph_i (ph_i k 31 i 0) 32 i 0), ?_, rfl, ?_, e2, ?_⟩
      · show lb_X5_leastYards_25 (nI i) k = _
        unfold lb_X5_leastYards_25
        rw [if_neg (show ¬ (3 : Int32) ≤ nI i from nI_ge (b := 3) hi (by decide)), pu_gn hi (by decide), nI_clamp (by omega), pu_lt, pu_gn hi (by decide), pu_lt, pu_lt, ← nI_succ]
      · intro a x1 x2
        show (ph_i (ph_i k 31 i 0) 32 i 0).1 a = _
        rw [pr_ne x2, pr_ne x1]
        exact e1 a x1 x2
      · intro x hx
        show (ph_i (ph_i k 31 i 0) 32 i 0).1 31 x = _ ∧ (ph_i (ph_i k 31 i 0) 32 i 0).1 32 x = _
        rw [pr_ne (show (31 : Nat) ≠ 32 by decide), pr_eq, pr_eq, pr_ne (show (32 : Nat) ≠ 31 by decide)]
        by_cases hxi : x = i
        · rw [if_pos hxi, if_pos hxi]; exact ⟨rfl, rfl⟩
        · rw [if_neg hxi, if_neg hxi]; exact e3 x (by omega)
    · rintro ⟨y, k⟩ ⟨e0, e1, e2, e3⟩
      obtain rfl : y = nI 3 := e0
      refine ⟨(nI 3, k), ?_, e1, e2, e3⟩
      show lb_X5_leastYards_25 (nI 3) k = _
      unfold lb_X5_leastYards_25
      rw [if_pos (by decide)]
  obtain ⟨t, t1, t2, t3, t4⟩ := hZ
  have tc : cS t.2 N ld rm := cS_fr hc (by rw [t2 17 (by decide) (by decide), a1 17 (by decide)]) (by rw [t2 19 (by decide) (by decide), a1 19 (by decide)]) (by rw [t2 20 (by decide) (by decide), a1 20 (by decide)])
  obtain ⟨k, k1, k2, k3, k4⟩ := c_rooms tc
  have kc : cS k N ld rm := cS_fr tc (k2 17 (by decide)) (k2 19 (by decide)) (k2 20 (by decide))
  have kA : pA k w N f dv rm (fun s => ck (yv D B pl s)) := by
    refine ⟨?_, ?_, ?_, k4, fun s hs => ?_⟩
    · rw [k2 27 (by decide), t2 27 (by decide) (by decide)]; exact a7
    · rw [k2 27 (by decide), t2 27 (by decide) (by decide)]; exact a8
    · rw [k2 27 (by decide), t2 27 (by decide) (by decide)]; exact a9
    · rw [k2 28 (by decide), t2 28 (by decide) (by decide), a1 28 (by decide)]; exact hy s hs
  have pg0 : ∀ x, pg w 0 0 x = 0 := fun x => rfl
  have ym : ∀ s t, t < 2 ^ N → sub s t → ck (yv D B pl s) ≤ ck (yv D B pl t) := fun s t ht hst => ck_mono (yv_mono hn hB hN hpl 8 s t (pc_le _) ht hst)
  have yb : ∀ s, s < 2 ^ N → ck (yv D B pl s) ≤ 9000800 := fun s _ => Nat.le_trans (ck_b _) (by decide)
  obtain ⟨g, g1, g2, g3, g4, g5, g6, g7⟩ := x_set (f := f) (yw := fun s => ck (yv D B pl s)) hN ym yb hw1 hw hf hdk N 12 0 0 0 k (by omega) (by omega) kc kA (by rw [Nat.pow_zero]; exact Nat.one_pos) (by omega) (fun p hp => by omega) (fun x hx => by
    rw [pg0, sl_zero, k2 31 (by decide), k2 32 (by decide)]
    exact ⟨(t4 x hx).1, (t4 x hx).2, by omega⟩) (fun p hp => by omega) ⟨by rw [Nat.zero_mul, k2 27 (by decide), t2 27 (by decide) (by decide)]; exact a6, fun z => by rw [Nat.zero_mul] at z; exact absurd z (Nat.lt_irrefl 1000000)⟩
  rw [Nat.zero_add, Nat.one_mul] at g7
  unfold pS at g7
  rw [bs_ck (cP_ck (yv := yv D B pl))] at g7
  have z0 : ck (yv D B pl 0) = 0 := by rw [yv_0, ck_s (Nat.zero_le _)]
  rw [pg0, pg0, pg0] at g1
  simp only [z0] at g1
  have g1 : f_X5_settle 12 0 0 0 k = some ((), g) := g1
  have hgb : ∀ {β : Type} {K : Option β}, gb_i dv K = K := by
    intro β K
    unfold gb_i
    rw [if_pos hdv]
  refine ⟨g, ?_, fun a ha => ?_, by rw [g6, k3, t3, a2], g7⟩
  · unfold f_X5_leastYards
    rw [pu_lt, pu_lt, hgb, pu_lt, pu_lt, hh, t1, pu_b1, k1, pu_b2, g1, pu_b2, g7.1]
  · rw [g2 a (by omega) (by omega) (by omega) (by omega) (by omega), k2 a (by omega), t2 a (by omega) (by omega), a1 a (by omega)]
theorem c_pyf {h : PH} {P N C w f c : Nat} {D : Nat → Nat → Nat} {pl ld rm : Nat → Nat} {dv : Int32} {dk : Bool} (hn : nD P D) (hq : cQ h P N D pl) (hc : cS h N ld rm) (hcP : c < P) (h24 : ∀ p q, p < N → q < N → h.1 24 (8 * p + q) = nI (Yd D (pl p) (pl q))) (hW : cW h D C pl 0 (2 ^ N - 1) (2 ^ N - 1)) (hw1 : 1 ≤ w) (hw : w ≤ 3) (hf : f ≤ 99) (hdv : dv = 0 ∨ dv = 1) (hdk : dk = !decide (dv = 0)) : ∃ g, f_X11_plannedYardsFrom (nI c) (nI w) (nI f) dv h = some (nI (bs (cP w N f dk ld rm (yv D c pl)) (w ^ N)).1, g) ∧ (∀ a, (a < 25 ∨ a = 26 ∨ 33 < a) → g.1 a = h.1 a) ∧ g.2 = h.2 ∧ pS g w N (cP w N f dk ld rm (yv D c pl)) (w ^ N) := by
  have hN := hq.2.1
  have hp := Nat.two_pow_pos N
  have hpl : ∀ p, p < N → pl p < P := fun p hp => (hq.2.2.2 p hp).2
  obtain ⟨g1, b1, b2, b3, b4⟩ := c_start hq hcP
  have t1 : cT g1 N D c pl := by
    refine ⟨fun p q hp hqN => ?_, fun q hqN => ?_⟩
    · rw [b2 24 (by decide), h24 p q hp hqN]
      unfold Gy
      rw [if_neg (by omega)]
    · rw [b4 q hqN]
      unfold Gy
      rw [if_pos rfl]
  have w1 : cW g1 D c pl 0 (2 ^ N - 1) (2 ^ N - 1) := by
    have := cW_B (C := c) hN (by omega) hW
    unfold cW at this ⊢
    rw [b2 26 (by decide)]
    exact this
  obtain ⟨g2, c1, c2, c3, c4⟩ := c_sets hn.1 hcP hpl hN t1 w1
  have s2 : cS g2 N ld rm := cS_fr hc (by rw [c2 17 (by decide), b2 17 (by decide)]) (by rw [c2 19 (by decide), b2 19 (by decide)]) (by rw [c2 20 (by decide), b2 20 (by decide)])
  obtain ⟨g3, d1, d2, d3, d4⟩ := c_ly (f := f) hn hcP hpl s2 c4 hw1 hw hf hdv hdk
  refine ⟨g3, ?_, fun a ha => ?_, by rw [d3, c3, b3], d4⟩
  · unfold f_X11_plannedYardsFrom f_X6_all
    rw [b1, pu_b2, b2 17 (by decide), hq.2.2.1, sh_all hN, pu_b1, c1, pu_b2, d1, pu_b2]
  · rw [d2 a (by omega), c2 a (by omega), b2 a (by omega)]
theorem c_py {h : PH} {P N B w f : Nat} {D : Nat → Nat → Nat} {pl ld rm : Nat → Nat} {dv : Int32} {dk : Bool} (hn : nD P D) (hq : cQ h P N D pl) (hc : cS h N ld rm) (h10 : h.1 10 1 = nI B) (hB : B < P) (hw1 : 1 ≤ w) (hw : w ≤ 3) (hf : f ≤ 99) (hdv : dv = 0 ∨ dv = 1) (hdk : dk = !decide (dv = 0)) : ∃ g, f_X11_plannedYards (nI w) (nI f) dv h = some (nI (bs (cP w N f dk ld rm (yv D B pl)) (w ^ N)).1, g) ∧ (∀ a, (a < 24 ∨ 33 < a) → g.1 a = h.1 a) ∧ g.2 = h.2 ∧ pS g w N (cP w N f dk ld rm (yv D B pl)) (w ^ N) := by
  have hN := hq.2.1
  have hp := Nat.two_pow_pos N
  obtain ⟨g1, a1, a2, a3, a4, a5⟩ := c_orders (kd := 0) (w := 2 ^ N - 1) hq hn h10 hB (by omega) (by omega)
  have a1 : f_X11_reckonOrders (nI (2 ^ N - 1)) 0 h = some ((), g1) := a1
  have q1 : cQ g1 P N D pl := cQ_fr hq (a2 16 (by decide) (by decide) (by decide)) (a2 17 (by decide) (by decide) (by decide)) (a2 18 (by decide) (by decide) (by decide))
  have s1 : cS g1 N ld rm := cS_fr hc (a2 17 (by decide) (by decide) (by decide)) (a2 19 (by decide) (by decide) (by decide)) (a2 20 (by decide) (by decide) (by decide))
  obtain ⟨g2, b1, b2, b3, b4⟩ := c_pyf (f := f) hn q1 s1 hB (fun p q hp hqN => by
    rw [a4.1 p q hp hqN]
    unfold Gy
    rw [if_neg (by omega)]) a5 hw1 hw hf hdv hdk
  refine ⟨g2, ?_, fun a ha => ?_, by rw [b3, a3], b4⟩
  · unfold f_X11_plannedYards f_X6_all
    rw [hq.2.2.1, sh_all hN, pu_b1, a1, pu_b2, a2 10 (by decide) (by decide) (by decide), h10, b1, pu_b2]
  · rw [b2 a (by omega), a2 a (by omega) (by omega) (by omega)]
theorem cS_of {h : PH} (hP : iv_P h) : cS h (hv_N h) (hv_l h) (hv_r h) := ⟨hP.1.2.1, hP.1.1, fun p hp => ⟨(hP.2 p hp).2.1.1, (hP.2 p hp).2.1.2.2.1, (hP.2 p hp).2.2.1, (hP.2 p hp).2.2.2.1⟩⟩
theorem mR_of {h : PH} (hP : iv_P h) : mR h (hv_N h) (hv_l h) (hv_r h) := fun p hp => ⟨by rw [(hP.2 p hp).2.1.2.2.2]; exact (hP.2 p hp).2.1.1, (hP.2 p hp).2.1.2.2.1, by rw [(hP.2 p hp).2.2.2.2]; exact (hP.2 p hp).2.2.1, (hP.2 p hp).2.2.2.1⟩
/-- a plan is asked as told, or not -/
theorem rg_wf (x y : Int32) : (∃ w f : Nat, 1 ≤ w ∧ w ≤ 3 ∧ f ≤ 99 ∧ x = nI w ∧ y = nI f ∧ (∀ g : PH, f_X11_isPlanAsked x y g = some 1) ∧ ∀ g : PH, f_X12_isPlan x y g = some 1) ∨ ((∀ g : PH, f_X11_isPlanAsked x y g = some 0) ∧ ∀ g : PH, f_X12_isPlan x y g = some 0) := by
  have z1 : (1 : Int64).toInt = 1 := rfl
  have z3 : (3 : Int64).toInt = 3 := rfl
  have z99 : (99 : Int64).toInt = 99 := rfl
  have y1 : (1 : Int32).toInt = 1 := rfl
  have y3 : (3 : Int32).toInt = 3 := rfl
  have y99 : (99 : Int32).toInt = 99 := rfl
  by_cases hx : 1 ≤ x.toInt ∧ x.toInt ≤ 3
  · by_cases hy : 1 ≤ y.toInt ∧ y.toInt ≤ 99
    · left
      obtain ⟨w, hw, ew⟩ := x_of (show 0 ≤ x.toInt by omega)
      obtain ⟨f, hf, ef⟩ := x_of (show 0 ≤ y.toInt by omega)
      have tw : x.toInt = w := by rw [ew, nI_toInt hw]
      have tf : y.toInt = f := by rw [ef, nI_toInt hf]
      refine ⟨w, f, by omega, by omega, by omega, ew, ef, fun g => ?_, fun g => ?_⟩
      · unfold f_X11_isPlanAsked
        rw [if_neg (by rw [i_lt]; omega), if_neg (by rw [i_lt]; omega), if_neg (by rw [i_lt]; omega), if_neg (by rw [i_lt]; omega)]
      · unfold f_X12_isPlan
        rw [f_ini, f_ini, if_pos (by omega), if_pos (by omega), pu_b1, if_neg (by decide), pu_b1, if_neg (by decide)]
    · right
      refine ⟨fun g => ?_, fun g => ?_⟩
      · unfold f_X11_isPlanAsked
        rw [if_neg (by rw [i_lt]; omega), if_neg (by rw [i_lt]; omega)]
        by_cases h1 : y.toInt < 1
        · rw [if_pos (by rw [i_lt]; omega)]
        · rw [if_neg (by rw [i_lt]; omega), if_pos (by rw [i_lt]; omega)]
      · unfold f_X12_isPlan
        rw [f_ini, f_ini, if_pos (by omega), if_neg (by omega), pu_b1, if_neg (by decide), pu_b1, if_pos rfl]
  · right
    refine ⟨fun g => ?_, fun g => ?_⟩
    · unfold f_X11_isPlanAsked
      by_cases h1 : x.toInt < 1
      · rw [if_pos (by rw [i_lt]; omega)]
      · rw [if_neg (by rw [i_lt]; omega), if_pos (by rw [i_lt]; omega)]
    · unfold f_X12_isPlan
      rw [f_ini, if_neg (by omega), pu_b1, if_pos rfl]
theorem inv_pl {n : Nat} {h g k : PH} (hi : Inv n h) (e1 : ∀ a, (a < 24 ∨ 33 < a) → g.1 a = h.1 a) (e2 : g.2 = h.2) (f1 : ∀ a, a ≠ 43 → a ≠ 63 → a ≠ 64 → k.1 a = g.1 a) (f2 : ∀ j, j ≠ 33 → j ≠ 34 → k.1 43 j = g.1 43 j) (f3 : k.2 = g.2) : Inv (n + 1) k := by
  refine inv_frame hi (fun a ha => ?_) (fun j hj => ?_) ?_ ?_ (by rw [f3, e2])
  · have hsc : a < 24 ∨ 33 < a := by
      by_cases h1 : a < 24
      · exact Or.inl h1
      · by_cases h2 : 33 < a
        · exact Or.inr h2
        · exfalso
          have : ∀ b : Fin 34, 24 ≤ b.1 → sc_b b.1 = true := by decide
          have := this ⟨a, by omega⟩ (by show 24 ≤ a; omega)
          rw [show sc_b a = true from this] at ha
          cases ha
    rw [f1 a (fun q => by subst q; cases ha) (fun q => by subst q; cases ha) (fun q => by subst q; cases ha), e1 a hsc]
  · rw [f2 j (by omega) (by omega), e1 43 (by omega)]
  · rw [f1 0 (by decide) (by decide) (by decide), e1 0 (by omega)]
  · rw [f1 0 (by decide) (by decide) (by decide), e1 0 (by omega), f2 0 (by decide) (by decide), e1 43 (by omega)]
    exact hi.2.1.1
/-- both plans of one house -/
theorem both_plan {n : Nat} {h : PH} (hi : Inv n h) (h0 : 0 < hv_N h) {w f : Nat} (hw1 : 1 ≤ w) (hw : w ≤ 3) (hf : f ≤ 99) {dv : Int32} (hdv : dv = 0 ∨ dv = 1) : ∃ c g k, f_X11_plannedYards (nI w) (nI f) dv h = some (nI (bs c (w ^ hv_N h)).1, g) ∧ f_X12_layPlan (nI w) (nI f) dv g = some ((), k) ∧ (∀ a, (a < 24 ∨ 33 < a) → g.1 a = h.1 a) ∧ g.2 = h.2 ∧ (∀ a, a ≠ 43 → a ≠ 63 → a ≠ 64 → k.1 a = g.1 a) ∧ (∀ j, j ≠ 33 → j ≠ 34 → k.1 43 j = g.1 43 j) ∧ k.2 = g.2 ∧ pS g w (hv_N h) c (w ^ hv_N h) ∧ pM k c (w ^ hv_N h) := by
  obtain ⟨hS, hF, hH, hX, hP, hW, hR, hC⟩ := id hi
  have hB := B_lt hH hP h0
  obtain ⟨g, g1, g2, g3, g4⟩ := c_py (f := f) (dv := dv) (dk := !decide (dv = 0)) (nD_h hH hX) (cQ_of hH hX hP) (cS_of hP) hH.2.1.1 hB hw1 hw hf hdv rfl
  have e43 : g.1 43 = h.1 43 := g2 43 (by omega)
  have gq : mQ g (hv_P h) (hv_N h) (hv_B h) (hv_D h) (hv_p h) := mQ_fr (mQ_of hH hX hP hB) (g2 53 (by omega)) (g2 54 (by omega)) (by rw [e43]) (by rw [e43])
  obtain ⟨k, k1, k2, k3, k4, k5⟩ := m_layP (f := f) (dv := dv) (dk := !decide (dv = 0)) gq (mR_fr (mR_of hP) (g2 55 (by omega)) (g2 56 (by omega))) hw1 hw hf rfl
  exact ⟨_, g, k, g1, k1, g2, g3, k2, k3, k4, g4, k5⟩
theorem o_plan {n : Nat} {h : PH} (hi : Inv n h) (x y z : Int32) (hz : z = 0 ∨ z = 1) : ∃ r h1 h2, f_X11_plan x y z h = some (r, h1) ∧ f_X12_plan x y z h1 = some (r, h2) ∧ Inv (n + 1) h2 := by
  obtain ⟨hS, hF, hH, hX, hP, hW, hR, hC⟩ := id hi
  rcases rg_wf x y with ⟨w, f, hw1, hw, hf, rfl, rfl, u1, u2⟩ | ⟨u1, u2⟩
  rotate_left
  · exact ⟨-2, h, h, by simp [f_X11_plan, u1, pu_b1], by simp [f_X12_plan, u2, pu_b1], inv_up hi⟩
  have e17 := hP.1.1
  have e19 : h.1 43 19 = nI (hv_N h) := by rw [hP.1.2.2]; exact e17
  have hN := hP.1.2.1
  by_cases h0 : hv_N h = 0
  · refine ⟨-3, h, h, ?_, ?_, inv_up hi⟩
    · unfold f_X11_plan
      rw [u1, pu_b1, if_neg (by decide), e17, h0, if_pos (show nI 0 = 0 from rfl)]
    · unfold f_X12_plan
      rw [u2, pu_b1, if_neg (by decide), e19, h0, if_pos (show nI 0 = 0 from rfl)]
  obtain ⟨c, g, k, g1, k1, g2, g3, k2, k3, k4, g4, k5⟩ := both_plan hi (by omega) hw1 hw hf hz
  have hb := bs_le c (w ^ hv_N h)
  have ha := bs_arg c (w ^ hv_N h)
  have hwp := w_pow hw hN
  obtain ⟨k6, k7⟩ := k5
  generalize bs c (w ^ hv_N h) = bb at *
  refine ⟨if bb.1 < 1000000 then nI bb.1 else -9, g, k, ?_, ?_, inv_pl hi g2 g3 k2 k3 k4⟩
  · unfold f_X11_plan
    rw [u1, pu_b1, if_neg (by decide), e17, if_neg (nI_ne0 (by omega) (by omega)), g1, pu_b2, s_yon (by omega), pu_b1]
  · unfold f_X12_plan
    rw [u2, pu_b1, if_neg (by decide), g2 43 (by omega), e19, if_neg (nI_ne0 (by omega) (by omega)), k1, pu_b2, k6, k7]
    by_cases hq : bb.1 < 1000000
    · have := ha hq
      rw [if_pos hq, if_pos hq, if_pos (nI_pos' (by omega))]
      unfold cv
      rw [if_pos hq]
    · rw [if_neg hq, if_neg hq, if_neg (by decide)]
theorem o_on {n : Nat} {h : PH} (hi : Inv n h) (x y z u : Int32) (hz : z = 0 ∨ z = 1) : ∃ r h1 h2, f_X11_on x y z u h = some (r, h1) ∧ f_X12_on x y z u h1 = some (r, h2) ∧ Inv (n + 1) h2 := by
  obtain ⟨hS, hF, hH, hX, hP, hW, hR, hC⟩ := id hi
  rcases rg_pt hP u with ⟨p, hp, hp8, rfl, w1, w2⟩ | ⟨w1, w2⟩
  rotate_left
  · exact ⟨-1, h, h, by simp [f_X11_on, w1 h rfl, pu_b1], by simp [f_X12_on, w2 h rfl, pu_b1], inv_up hi⟩
  rcases rg_wf x y with ⟨w, f, hw1, hw, hf, rfl, rfl, u1, u2⟩ | ⟨u1, u2⟩
  rotate_left
  · exact ⟨-2, h, h, by simp [f_X11_on, w1 h rfl, u1, pu_b1], by simp [f_X12_on, w2 h rfl, u2, pu_b1], inv_up hi⟩
  have hN := hP.1.2.1
  have e19 : h.1 43 19 = nI (hv_N h) := by rw [hP.1.2.2]; exact hP.1.1
  obtain ⟨c, g, k, g1, k1, g2, g3, k2, k3, k4, g4, k5⟩ := both_plan hi (by omega) hw1 hw hf hz
  have hb := bs_le c (w ^ hv_N h)
  have ha := bs_arg c (w ^ hv_N h)
  have hwp := w_pow hw hN
  obtain ⟨k6, k7⟩ := k5
  obtain ⟨g5, g6⟩ := g4
  have e43 : g.1 43 = h.1 43 := g2 43 (by omega)
  have k19 : k.1 43 19 = nI (hv_N h) := by rw [k3 19 (by decide) (by decide), e43]; exact e19
  generalize bs c (w ^ hv_N h) = bb at *
  by_cases hq : bb.1 < 1000000
  · have hr := (ha hq).1
    obtain ⟨t, t1, t2, t3, t4⟩ := m_tkr (h := k) (N := hv_N h) (w := w) (r := bb.2) hN k19 hw1 hw (by omega)
    have hd := dg_lt (show 0 < w by omega) (hv_N h) bb.2 p
    have hgl : ∀ x, gr w (hv_N h) bb.2 x < 256 := fun x => by have := gr_lt w (hv_N h) bb.2 x; have := p2_le hN; omega
    have bit : ∀ x, (gr w (hv_N h) bb.2 x).testBit p = decide (dg w (hv_N h) bb.2 p = x) := by
      intro x
      cases hz : (gr w (hv_N h) bb.2 x).testBit p with
      | true => exact (decide_eq_true (gr_bit.mp hz).2).symm
      | false =>
        symm
        apply decide_eq_false
        intro e
        rw [gr_bit.mpr ⟨hp, e⟩] at hz
        cases hz
    refine ⟨nI (dg w (hv_N h) bb.2 p), g, t, ?_, ?_, inv_pl hi g2 g3 (fun a a1 a2 a3 => by rw [t2 a a3]; exact k2 a a1 a2 a3) (fun j j1 j2 => by rw [t2 43 (by decide)]; exact k3 j j1 j2) (by rw [t3, k4])⟩
    · unfold f_X11_on
      rw [w1 h rfl, pu_b1, if_neg (by decide), u1, pu_b1, if_neg (by decide), g1, pu_b2, if_pos (show nI bb.1 < 1000000 from nI_lt (b := 1000000) hq (by decide)), pu_gn hp8 (by decide), nI_clamp (by omega), g6 hq p hp]
    · unfold f_X12_on
      rw [w2 g (by rw [e43]), pu_b1, if_pos rfl, u2, pu_b1, if_neg (by decide), k1, pu_b2, k7, if_pos hq, if_pos (nI_pos' (by omega)), t1, pu_b2, show (ga_i (β := Int32 × PH) 0 3) = ga_i (nI 0) 3 from rfl, pu_gn (by decide) (by decide), show (0 : Int32).toNatClampNeg = 0 from rfl, t4 0 (by decide), m_has (hgl 0) hp8, pu_b1, bit 0, show (ga_i (β := Int32 × PH) 1 3) = ga_i (nI 1) 3 from rfl, pu_gn (by decide) (by decide), show (1 : Int32).toNatClampNeg = 1 from rfl, t4 1 (by decide), m_has (hgl 1) hp8, pu_b1, bit 1]
      have : dg w (hv_N h) bb.2 p = 0 ∨ dg w (hv_N h) bb.2 p = 1 ∨ dg w (hv_N h) bb.2 p = 2 := by omega
      rcases this with e | e | e
      · rw [e]; rfl
      · rw [e]; rfl
      · rw [e]; rfl
  · refine ⟨-9, g, k, ?_, ?_, inv_pl hi g2 g3 k2 k3 k4⟩
    · unfold f_X11_on
      rw [w1 h rfl, pu_b1, if_neg (by decide), u1, pu_b1, if_neg (by decide), g1, pu_b2, if_neg (show ¬ nI bb.1 < 1000000 from nI_nlt (b := 1000000) (by omega) (by omega))]
    · unfold f_X12_on
      rw [w2 g (by rw [e43]), pu_b1, if_pos rfl, u2, pu_b1, if_neg (by decide), k1, pu_b2, k7, if_neg hq, if_neg (by decide)]
