/-! PURE PART: words for the programs -/
theorem pu_lt {α β : Type} (a : α) (k : α → Option β) : lt_b a k = k a := Eq.trans rfl rfl
theorem pu_b1 {α β : Type} (a : α) (k : α → Option β) : bd_1 (some a) k = k a := Eq.trans rfl rfl
theorem pu_b2 {α β : Type} (a : α) (t : PH) (k : α → PH → Option β) : bd_2 (some (a, t)) k = k a t := Eq.trans rfl rfl
theorem pu_ga {β : Type} {i : Int32} {n : Nat} {k : Option β} (h0 : 0 ≤ i.toInt) (h1 : i.toInt < n) : ga_i i n k = k := by
  have h2 : vp_in i n := vp_in_iff.mpr ⟨h0, h1⟩
  unfold ga_i
  exact if_neg h2
theorem pu_gn {β : Type} {j n : Nat} {k : Option β} (hj : j < n) (hn : n < 2 ^ 31) : ga_i (nI j) n k = k := by
  have h2 : vp_in (nI j) n := vp_in_nI hj hn
  unfold ga_i
  exact if_neg h2
theorem pu_g0 {β : Type} {k : Option β} : gb_i 0 k = k := rfl
theorem pu_g1 {β : Type} {k : Option β} : gb_i 1 k = k := rfl
theorem pu_gz {β : Type} {y : Int32} {k : Option β} (h : ¬ y = 0) : gz_i y k = k := if_neg h
theorem pu_gzl {β : Type} {y : Int64} {k : Option β} (h : ¬ y = 0) : gz_l y k = k := if_neg h
/-- rows behind a write -/
theorem pr_row (h : PH) (k j : Nat) (v : Int32) (a : Nat) : (ph_i h k j v).1 a = if a = k then upd (h.1 a) j v else h.1 a := by
  show up_R h.1 k (upd (h.1 k) j v) a = _
  unfold up_R
  by_cases ha : a = k
  · subst ha; simp
  · simp [ha]
theorem pr_rr (h : PH) (k : Nat) (g : Nat → Int32) (a : Nat) : (ph_r h k g).1 a = if a = k then g else h.1 a := rfl
theorem pr_2 (h : PH) (k j : Nat) (v : Int32) : (ph_i h k j v).2 = h.2 := rfl
theorem pr_r2 (h : PH) (k : Nat) (g : Nat → Int32) : (ph_r h k g).2 = h.2 := rfl
theorem pr_l1 (h : PH) (k j : Nat) (v : Int64) : (ph_l h k j v).1 = h.1 := rfl
theorem pr_l2 (h : PH) (k j : Nat) (v : Int64) : (ph_l h k j v).2.2 = h.2.2 := rfl
theorem pr_w1 (h : PH) (k j : Nat) (v : Option Nat) : (ph_w h k j v).1 = h.1 := rfl
theorem pr_w3 (h : PH) (k j : Nat) (v : Option Nat) : (ph_w h k j v).2.2.2 = h.2.2.2 := rfl
theorem up_at (f : Nat → Int32) (k : Nat) (x : Int32) (j : Nat) : upd f k x j = if j = k then x else f j := rfl
theorem ph_ir (h : PH) (k j : Nat) (v : Int32) : ph_i h k j v = ph_r h k (upd (h.1 k) j v) := rfl
theorem ph_rr (h : PH) (k : Nat) (g1 g2 : Nat → Int32) : ph_r (ph_r h k g1) k g2 = ph_r h k g2 := by
  unfold ph_r
  refine Prod.ext ?_ rfl
  funext a
  show up_R (up_R h.1 k g1) k g2 a = up_R h.1 k g2 a
  unfold up_R
  by_cases ha : a = k <;> simp [ha]
theorem ph_ri (h : PH) (k j : Nat) (g : Nat → Int32) (v : Int32) : ph_i (ph_r h k g) k j v = ph_r h k (upd g j v) := by
  rw [ph_ir, ph_rr]
  congr 2
  exact up_R_s h.1 k g
theorem ph_rid (h : PH) (k : Nat) : ph_r h k (h.1 k) = h := by
  unfold ph_r
  refine Prod.ext ?_ rfl
  funext a
  show up_R h.1 k (h.1 k) a = h.1 a
  unfold up_R
  by_cases ha : a = k <;> simp [ha]
/-- loops -/
theorem lp_s {σ ρ : Type} {body : σ → Option (σ ⊕ ρ)} {n : Nat} {s t : σ} (h : body s = some (.inl t)) : lp_f body (n + 1) s = lp_f body n t := by
  show (match body s with | none => none | some (.inl t) => lp_f body n t | some (.inr r) => some r) = _
  rw [h]
theorem lp_r {σ ρ : Type} {body : σ → Option (σ ⊕ ρ)} {n : Nat} {s : σ} {r : ρ} (h : body s = some (.inr r)) : lp_f body (n + 1) s = some r := by
  show (match body s with | none => none | some (.inl t) => lp_f body n t | some (.inr r) => some r) = _
  rw [h]
theorem lp_cnt {σ ρ : Type} {body : σ → Option (σ ⊕ ρ)} (st : Nat → σ) (e : Nat) (r : ρ) (hs : ∀ i, i < e → body (st i) = some (.inl (st (i + 1)))) (he : body (st e) = some (.inr r)) : ∀ (n i : Nat), i ≤ e → e - i < n → lp_f body n (st i) = some r := by
  intro n
  induction n with
  | zero => intro i _ h; omega
  | succ n ih =>
    intro i h1 h2
    by_cases hi : i = e
    · subst hi; exact lp_r he
    · rw [lp_s (hs i (by omega))]
      exact ih (i + 1) (by omega) (by omega)
theorem lp_inv {σ ρ : Type} {body : σ → Option (σ ⊕ ρ)} (μ : σ → Nat) (I : σ → Prop) (Q : ρ → Prop) (hs : ∀ s, I s → (∃ t, body s = some (.inl t) ∧ I t ∧ μ t < μ s) ∨ ∃ r, body s = some (.inr r) ∧ Q r) : ∀ (n : Nat) (s : σ), I s → μ s < n → ∃ r, lp_f body n s = some r ∧ Q r := by
  intro n
  induction n with
  | zero => intro s _ h; omega
  | succ n ih =>
    intro s hI h
    rcases hs s hI with ⟨t, h1, h2, h3⟩ | ⟨r, h1, h2⟩
    · rw [lp_s h1]; exact ih t h2 (by omega)
    · exact ⟨r, lp_r h1, h2⟩
/-- numbers -/
theorem ix_of {x : Int32} {n : Nat} (h0 : 0 ≤ x.toInt) (h1 : x.toInt < n) (hn : n < 2 ^ 31) : ∃ j : Nat, j < n ∧ x = nI j := vp_in_of (vp_in_iff.mpr ⟨h0, h1⟩) hn
theorem i_lt {x y : Int32} : x < y ↔ x.toInt < y.toInt := Int32.lt_iff_toInt_lt
theorem i_le {x y : Int32} : x ≤ y ↔ x.toInt ≤ y.toInt := Int32.le_iff_toInt_le
theorem i_eq {x y : Int32} : x = y ↔ x.toInt = y.toInt := Int32.toInt_inj.symm
theorem l_lt {x y : Int64} : x < y ↔ x.toInt < y.toInt := Int64.lt_iff_toInt_lt
theorem l_le {x y : Int64} : x ≤ y ↔ x.toInt ≤ y.toInt := Int64.le_iff_toInt_le
theorem l_eq {x y : Int64} : x = y ↔ x.toInt = y.toInt := Int64.toInt_inj.symm
theorem i_l (x : Int32) : x.toInt64.toInt = x.toInt := Int32.toInt_toInt64 x
theorem i_rng (x : Int32) : -2147483648 ≤ x.toInt ∧ x.toInt < 2147483648 := ⟨Int32.le_toInt x, Int32.toInt_lt x⟩
theorem i_add {x y : Int32} (h0 : -2147483648 ≤ x.toInt + y.toInt) (h1 : x.toInt + y.toInt < 2147483648) : (x + y).toInt = x.toInt + y.toInt := by
  rw [Int32.toInt_add]
  exact Int.bmod_eq_of_le (by omega) (by omega)
theorem i_sub {x y : Int32} (h0 : -2147483648 ≤ x.toInt - y.toInt) (h1 : x.toInt - y.toInt < 2147483648) : (x - y).toInt = x.toInt - y.toInt := by
  rw [Int32.toInt_sub]
  exact Int.bmod_eq_of_le (by omega) (by omega)
theorem i_mul {x y : Int32} (h0 : -2147483648 ≤ x.toInt * y.toInt) (h1 : x.toInt * y.toInt < 2147483648) : (x * y).toInt = x.toInt * y.toInt := by
  rw [Int32.toInt_mul]
  exact Int.bmod_eq_of_le (by omega) (by omega)
theorem l_add {x y : Int64} (h0 : -9223372036854775808 ≤ x.toInt + y.toInt) (h1 : x.toInt + y.toInt < 9223372036854775808) : (x + y).toInt = x.toInt + y.toInt := by
  rw [Int64.toInt_add]
  exact Int.bmod_eq_of_le (by omega) (by omega)
theorem l_sub {x y : Int64} (h0 : -9223372036854775808 ≤ x.toInt - y.toInt) (h1 : x.toInt - y.toInt < 9223372036854775808) : (x - y).toInt = x.toInt - y.toInt := by
  rw [Int64.toInt_sub]
  exact Int.bmod_eq_of_le (by omega) (by omega)
theorem l_mul {x y : Int64} (h0 : -9223372036854775808 ≤ x.toInt * y.toInt) (h1 : x.toInt * y.toInt < 9223372036854775808) : (x * y).toInt = x.toInt * y.toInt := by
  rw [Int64.toInt_mul]
  exact Int.bmod_eq_of_le (by omega) (by omega)
/-- small numbers, as they stand in the programs -/
theorem n_0 : (0 : Int32) = nI 0 := rfl
theorem n_1 : (1 : Int32) = nI 1 := rfl
theorem n_2 : (2 : Int32) = nI 2 := rfl
theorem n_8 : (8 : Int32) = nI 8 := rfl
theorem n_100 : (100 : Int32) = nI 100 := rfl
theorem f_in (a b c : Int64) (h : PH) : f_X12_in a b c h = some (if b ≤ a ∧ a ≤ c then 1 else 0) := by
  unfold f_X12_in
  by_cases h1 : a < b
  · rw [if_pos ((lg_cmp_lt a b).mpr h1), if_neg (fun q => by have := l_lt.mp h1; have := l_le.mp q.1; omega)]
  · rw [if_neg (fun q => h1 ((lg_cmp_lt a b).mp q))]
    by_cases h2 : c < a
    · rw [if_pos ((lg_cmp_gt a c).mpr h2), if_neg (fun q => by have := l_lt.mp h2; have := l_le.mp q.2; omega)]
    · rw [if_neg (fun q => h2 ((lg_cmp_gt a c).mp q)), if_pos ⟨by rw [l_le]; rw [l_lt] at h1; omega, by rw [l_le]; rw [l_lt] at h2; omega⟩]
/-- 'in' of an int between two longs -/
theorem f_ini (x : Int32) (b c : Int64) (h : PH) : f_X12_in x.toInt64 b c h = some (if b.toInt ≤ x.toInt ∧ x.toInt ≤ c.toInt then 1 else 0) := by
  rw [f_in]
  simp only [l_le, i_l]
