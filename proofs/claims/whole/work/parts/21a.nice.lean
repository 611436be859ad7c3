/-! DISTANCES are alike both ways, and no way round is shorter; yards too -/
def nD (P : Nat) (D : Nat → Nat → Nat) : Prop := (∀ a b, a < P → b < P → D a b < 100000 ∨ D a b = 1000000) ∧ (∀ a b x, a < P → b < P → x < P → Yd D a x ≤ Yd D a b + Yd D b x) ∧ ∀ a b, a < P → b < P → D a b = D b a
theorem tri_D {P : Nat} {op : Nat → Nat → Nat → Prop} {c : Nat → Nat} {D : Nat → Nat → Nat} (hc : ∀ k a b, op k a b → 1000 ≤ c k) (hd : iv_d P op c D) : ∀ (n a b x : Nat), a < P → b < P → x < P → D a b ≤ n → D a x ≤ D a b + D b x := by
  intro n
  induction n using Nat.strongRecOn with
  | _ n ih =>
    intro a b x ha hb hx hn
    have h4 := hd.2.2.2 a b ha hb
    have h5 := hd.2.2.2 a x ha hx
    by_cases hab : a = b
    · subst hab; omega
    · by_cases hf : D a b < 1000000
      · obtain ⟨k, e, he, ho, hs⟩ := hd.2.2.1 a b ha hb hab hf
        have hk := hc k a e ho
        have h1 := hd.2.1 k a e x ha he hx ho
        have h2 := ih (D e b) (by omega) e b x he hb hx (Nat.le_refl _)
        omega
      · omega
theorem sym_le {P : Nat} {op : Nat → Nat → Nat → Prop} {c : Nat → Nat} {D : Nat → Nat → Nat} (hc : ∀ k a b, op k a b → 1000 ≤ c k) (hsy : ∀ k a b, op k a b → op k b a) (hd : iv_d P op c D) : ∀ (n a b : Nat), a < P → b < P → D a b ≤ n → D b a ≤ D a b := by
  intro n
  induction n using Nat.strongRecOn with
  | _ n ih =>
    intro a b ha hb hn
    have h4 := hd.2.2.2 a b ha hb
    have h5 := hd.2.2.2 b a hb ha
    by_cases hab : a = b
    · subst hab; omega
    · by_cases hf : D a b < 1000000
      · obtain ⟨k, e, he, ho, hs⟩ := hd.2.2.1 a b ha hb hab hf
        have hk := hc k a e ho
        have h1 := hd.2.1 k e a a he ha ha (hsy k a e ho)
        have h0 := hd.1 a ha
        have h2 := ih (D e b) (by omega) e b he hb (Nat.le_refl _)
        have h3 := tri_D hc hd (D b e) b e a hb he ha (Nat.le_refl _)
        omega
      · omega
theorem dv_add {y d v : Nat} (h : d + v % 1000 < 1000) : (1000 * y + d + v) / 1000 = y + v / 1000 ∧ (1000 * y + d + v) % 1000 = d + v % 1000 := by
  constructor <;> omega
theorem fin_D {P : Nat} {op : Nat → Nat → Nat → Prop} {c : Nat → Nat} {D : Nat → Nat → Nat} (hd : iv_d P op c D) {a b : Nat} (ha : a < P) (hb : b < P) (hf : D a b < 1000000) : D a b < 100000 := by
  rcases hd.2.2.2 a b ha hb with q | q
  · exact q
  · rw [q] at hf; exact absurd hf (Nat.lt_irrefl _)
theorem rem_D {P : Nat} {op : Nat → Nat → Nat → Prop} {y d : Nat → Nat} {D : Nat → Nat → Nat} (hy : ∀ k a b, op k a b → 1 ≤ y k ∧ d k ≤ 9) (hd : iv_d P op (fun k => 1000 * y k + d k) D) : ∀ (n a b : Nat), a < P → b < P → D a b < 1000000 → D a b ≤ n → D a b % 1000 ≤ 9 * (D a b / 1000) ∧ D a b / 1000 ≤ 99 := by
  intro n
  induction n using Nat.strongRecOn with
  | _ n ih =>
    intro a b ha hb hf hn
    have h4 := fin_D hd ha hb hf
    have h99 : D a b / 1000 ≤ 99 := by clear ih; omega
    refine ⟨?_, h99⟩
    by_cases hab : a = b
    · subst hab
      rw [hd.1 a ha]
      exact Nat.zero_le _
    · obtain ⟨k, e, he, ho, hs⟩ := hd.2.2.1 a b ha hb hab hf
      have hk := hy k a e ho
      have hs : D a b = 1000 * y k + d k + D e b := hs
      have hlt : D e b < D a b := by clear ih; omega
      have h2 := ih (D e b) (Nat.lt_of_lt_of_le hlt hn) e b he hb (Nat.lt_trans hlt hf) (Nat.le_refl _)
      have h3 : D e b / 1000 ≤ 98 := by
        clear ih h2
        omega
      clear ih
      generalize D e b = v at *
      have h5 : d k + v % 1000 < 1000 := by
        have := h2.1
        generalize v % 1000 = r at *
        generalize v / 1000 = q at *
        omega
      obtain ⟨e1, e2⟩ := dv_add (y := y k) h5
      rw [hs, e1, e2]
      have := h2.1
      generalize v % 1000 = r at *
      generalize v / 1000 = q at *
      omega
theorem tri_Y {P : Nat} {op : Nat → Nat → Nat → Prop} {y d : Nat → Nat} {D : Nat → Nat → Nat} (hy : ∀ k a b, op k a b → 1 ≤ y k ∧ d k ≤ 9) (hd : iv_d P op (fun k => 1000 * y k + d k) D) : ∀ (n a b x : Nat), a < P → b < P → x < P → D a b < 1000000 → D b x < 1000000 → D a b ≤ n → D a x / 1000 ≤ D a b / 1000 + D b x / 1000 := by
  have hc : ∀ k a b, op k a b → 1000 ≤ 1000 * y k + d k := fun k a b ho => by have := hy k a b ho; omega
  have smallr : ∀ a b, a < P → b < P → D a b < 1000000 → ∀ k a' b', op k a' b' → d k + D a b % 1000 < 1000 := by
    intro a b ha hb hf k a' b' ho
    have h1 := rem_D hy hd (D a b) a b ha hb hf (Nat.le_refl _)
    have h2 := (hy k a' b' ho).2
    generalize D a b % 1000 = r at *
    generalize D a b / 1000 = q at *
    omega
  intro n
  induction n using Nat.strongRecOn with
  | _ n ih =>
    intro a b x ha hb hx hf1 hf2 hn
    by_cases hab : a = b
    · subst hab
      exact Nat.le_add_left _ _
    · obtain ⟨k, e, he, ho, hs⟩ := hd.2.2.1 a b ha hb hab hf1
      have hs : D a b = 1000 * y k + d k + D e b := hs
      have hk := hy k a e ho
      have hlt : D e b < D a b := by clear ih smallr; omega
      have hfb : D e b < 1000000 := Nat.lt_trans hlt hf1
      have h2 := ih (D e b) (Nat.lt_of_lt_of_le hlt hn) e b x he hb hx hfb hf2 (Nat.le_refl _)
      clear ih
      have t1 := tri_D hc hd (D e b) e b x he hb hx (Nat.le_refl _)
      have l1 := fin_D hd he hb hfb
      have l2 := fin_D hd hb hx hf2
      have hfe : D e x < 1000000 := by clear smallr h2; omega
      have h1 : D a x ≤ 1000 * y k + d k + D e x := hd.2.1 k a e x ha he hx ho
      have d1 := (dv_add (y := y k) (smallr e x he hx hfe k a e ho)).1
      have d2 := (dv_add (y := y k) (smallr e b he hb hfb k a e ho)).1
      have d3 := Nat.div_le_div_right (c := 1000) h1
      rw [d1] at d3
      rw [hs, d2]
      generalize D a x / 1000 = q1 at *
      generalize D e x / 1000 = q2 at *
      generalize D e b / 1000 = q3 at *
      generalize D b x / 1000 = q4 at *
      clear smallr
      omega
theorem nD_of {h : PH} (hH : iv_H h) {D : Nat → Nat → Nat} {op : Nat → Nat → Nat → Prop} (hop : ∀ k a b, op k a b → k < hv_R h ∧ op k b a) (hd : iv_d (hv_P h) op (hv_c h) D) : nD (hv_P h) D := by
  have hy : ∀ k a b, op k a b → 1 ≤ hv_y h k ∧ hv_d h k ≤ 9 := fun k a b ho => by
    obtain ⟨_, _, _, ⟨_, k9, _, _⟩, ⟨_, k13, _⟩, _, _⟩ := hH.2.2.2 k (hop k a b ho).1
    exact ⟨k9, k13⟩
  have hc : ∀ k a b, op k a b → 1000 ≤ hv_c h k := fun k a b ho => by
    have := hy k a b ho
    show 1000 ≤ 1000 * hv_y h k + hv_d h k
    omega
  refine ⟨hd.2.2.2, fun a b x ha hb hx => ?_, fun a b ha hb => ?_⟩
  · have h1 := hd.2.2.2 a b ha hb
    have h2 := hd.2.2.2 b x hb hx
    have h3 := hd.2.2.2 a x ha hx
    unfold Yd
    by_cases q1 : D a b = 1000000
    · rw [if_pos q1]
      split <;> omega
    · by_cases q2 : D b x = 1000000
      · rw [if_pos q2]
        split <;> omega
      · have t := tri_D hc hd (D a b) a b x ha hb hx (Nat.le_refl _)
        have t2 := tri_Y hy hd (D a b) a b x ha hb hx (by omega) (by omega) (Nat.le_refl _)
        rw [if_neg q1, if_neg q2, if_neg (by omega)]
        exact t2
  · have h1 := sym_le hc (fun k a b ho => (hop k a b ho).2) hd (D a b) a b ha hb (Nat.le_refl _)
    have h2 := sym_le hc (fun k a b ho => (hop k a b ho).2) hd (D b a) b a hb ha (Nat.le_refl _)
    omega
theorem hv_o_sym (h : PH) : ∀ k a b, hv_o h k a b → k < hv_R h ∧ hv_o h k b a := fun _ _ _ ho => ⟨ho.1, ho.1, ho.2.1, ho.2.2.elim Or.inr Or.inl⟩
theorem nD_h {h : PH} (hH : iv_H h) (hX : iv_X h) : nD (hv_P h) (hv_D h) := nD_of hH (hv_o_sym h) hX.2
theorem Yd_sym {P : Nat} {D : Nat → Nat → Nat} (hn : nD P D) {a b : Nat} (ha : a < P) (hb : b < P) : Yd D a b = Yd D b a := by
  unfold Yd
  rw [hn.2.2 a b ha hb]
/-! LEAST CABLE: the least over those of a set -/
def mnq (s : Nat) (f : Nat → Nat) : Nat → Nat
  | 0 => 2147483647
  | n + 1 => if s.testBit n then min (mnq s f n) (f n) else mnq s f n
theorem mnq_c {s : Nat} {f e : Nat → Nat} : ∀ n, (∀ q, q < n → s.testBit q = true → f q = e q) → mnq s f n = mnq s e n
  | 0, _ => rfl
  | n + 1, h => by
    unfold mnq
    rw [mnq_c n (fun q hq hb => h q (by omega) hb)]
    by_cases hb : s.testBit n = true
    · rw [if_pos hb, if_pos hb, h n (by omega) hb]
    · rw [if_neg hb, if_neg hb]
theorem mnq_le {s : Nat} {f : Nat → Nat} : ∀ n q, q < n → s.testBit q = true → mnq s f n ≤ f q
  | 0, q, h, _ => by omega
  | n + 1, q, h, hb => by
    have ih := mnq_le (s := s) (f := f) n q
    unfold mnq
    by_cases hq : q = n
    · subst hq
      rw [if_pos hb]
      exact Nat.min_le_right _ _
    · have := ih (by omega) hb
      split
      · exact Nat.le_trans (Nat.min_le_left _ _) this
      · exact this
theorem mnq_at {s : Nat} {f : Nat → Nat} : ∀ n, mnq s f n = 2147483647 ∨ ∃ q, q < n ∧ s.testBit q = true ∧ mnq s f n = f q
  | 0 => Or.inl rfl
  | n + 1 => by
    have ih := mnq_at (s := s) (f := f) n
    unfold mnq
    by_cases hb : s.testBit n = true
    · rw [if_pos hb]
      by_cases hm : mnq s f n ≤ f n
      · rw [Nat.min_eq_left hm]
        rcases ih with h | ⟨q, h1, h2, h3⟩
        · exact Or.inl h
        · exact Or.inr ⟨q, by omega, h2, h3⟩
      · rw [Nat.min_eq_right (by omega)]
        exact Or.inr ⟨n, by omega, hb, rfl⟩
    · rw [if_neg hb]
      rcases ih with h | ⟨q, h1, h2, h3⟩
      · exact Or.inl h
      · exact Or.inr ⟨q, by omega, h2, h3⟩
/-- the least that an order of the set needs, from a on -/
def Tv (G : Nat → Nat → Nat) (hm : Nat → Nat) : Nat → Nat → Nat → Nat
  | 0, _, a => hm a
  | k + 1, s, a => mnq s (fun q => G a q + Tv G hm k (rm1 s q) q) 8
def Tl (G : Nat → Nat → Nat) (hm : Nat → Nat) (s a : Nat) : Nat := Tv G hm (pc s) s a
theorem Tl_0 (G : Nat → Nat → Nat) (hm : Nat → Nat) (a : Nat) : Tl G hm 0 a = hm a := by
  unfold Tl
  rw [show pc 0 = 0 from sl_zero _ 8]
  rfl
theorem Tl_s (G : Nat → Nat → Nat) (hm : Nat → Nat) {s : Nat} (hs : s < 256) (h0 : s ≠ 0) (a : Nat) : Tl G hm s a = mnq s (fun q => G a q + Tl G hm (rm1 s q) q) 8 := by
  obtain ⟨k, hk⟩ : ∃ k, pc s = k + 1 := ⟨pc s - 1, by
    rcases Nat.eq_zero_or_pos (pc s) with q | q
    · exact absurd (pc_0 hs q) h0
    · omega⟩
  unfold Tl
  rw [hk]
  show mnq s (fun q => G a q + Tv G hm k (rm1 s q) q) 8 = _
  refine mnq_c 8 (fun q hq hb => ?_)
  have := pc_rm hs hb
  rw [show pc (rm1 s q) = k by omega]
/-- good numbers: small, or far -/
theorem Tl_good {G : Nat → Nat → Nat} {hm : Nat → Nat} : ∀ (n s a : Nat), s < 256 → pc s ≤ n → (∀ q, s.testBit q = true → (G a q ≤ 99 ∨ G a q = 1000000)) → (∀ p q, s.testBit p = true → s.testBit q = true → (G p q ≤ 99 ∨ G p q = 1000000)) → (hm a ≤ 99 ∨ hm a = 1000000) → (∀ p, s.testBit p = true → (hm p ≤ 99 ∨ hm p = 1000000)) → Tl G hm s a ≤ 99 * (pc s + 1) ∨ (1000000 ≤ Tl G hm s a ∧ Tl G hm s a ≤ 1000000 * (pc s + 1) + 100 * pc s) := by
  intro n
  induction n with
  | zero =>
    intro s a hs hp h1 h2 h3 h4
    have h0 : s = 0 := pc_0 hs (by omega)
    subst h0
    rw [Tl_0]
    rcases h3 with q | q <;> omega
  | succ n ih =>
    intro s a hs hp h1 h2 h3 h4
    by_cases h0 : s = 0
    · subst h0
      rw [Tl_0]
      rcases h3 with q | q <;> omega
    · have sub : ∀ q, s.testBit q = true → Tl G hm (rm1 s q) q ≤ 99 * pc s ∨ (1000000 ≤ Tl G hm (rm1 s q) q ∧ Tl G hm (rm1 s q) q ≤ 1000000 * pc s + 100 * (pc s - 1)) := by
        intro q hq
        have hpc := pc_rm hs hq
        have hle := rm_le s q
        have r := fun p (hp : (rm1 s q).testBit p = true) => ((rm_bit (by omega) p).mp hp).1
        have := ih (rm1 s q) q (by omega) (by omega) (fun p hp => h2 q p hq (r p hp)) (fun p p' hp hp' => h2 p p' (r p hp) (r p' hp')) (h4 q hq) (fun p hp => h4 p (r p hp))
        rw [show pc (rm1 s q) + 1 = pc s by omega, show pc (rm1 s q) = pc s - 1 by omega] at this
        exact this
      have hp8 := pc_le s
      rw [Tl_s G hm hs h0]
      rcases mnq_at (s := s) (f := fun q => G a q + Tl G hm (rm1 s q) q) 8 with hz | ⟨q, q1, q2, q3⟩
      · exfalso
        obtain ⟨q, hq⟩ := set_ne h0
        have := mnq_le (s := s) (f := fun q => G a q + Tl G hm (rm1 s q) q) 8 q (bit_8 hs hq) hq
        have e1 := h1 q hq
        have e2 := sub q hq
        rw [hz] at this
        have this : 2147483647 ≤ G a q + Tl G hm (rm1 s q) q := this
        omega
      · rw [q3]
        show G a q + Tl G hm (rm1 s q) q ≤ _ ∨ _ ≤ G a q + Tl G hm (rm1 s q) q ∧ G a q + Tl G hm (rm1 s q) q ≤ _
        have hpc := pc_rm hs q2
        have e1 := h1 q q2
        have e2 := sub q q2
        omega
theorem cv_mono {a b : Nat} (h : a ≤ b) : cv a ≤ cv b := by
  unfold cv
  by_cases h1 : b < 1000000
  · rw [if_pos h1, if_pos (by omega)]; exact h
  · rw [if_neg h1]; split <;> omega
theorem cv_min (a b : Nat) : min (cv a) (cv b) = cv (min a b) := by
  by_cases h : a ≤ b
  · rw [Nat.min_eq_left h, Nat.min_eq_left (cv_mono h)]
  · have hb : b ≤ a := by omega
    rw [Nat.min_eq_right hb, Nat.min_eq_right (cv_mono hb)]
theorem cv_add {x y : Nat} (hx : x ≤ 99 ∨ x = 1000000) (hy : y ≤ 99 * 9 ∨ 1000000 ≤ y) : min 10000000 (cv x + cv y) = cv (x + y) := by
  unfold cv
  rcases hx with h1 | h1 <;> rcases hy with h2 | h2
  · rw [if_pos (by omega), if_pos (by omega), if_pos (by omega)]; omega
  · rw [if_pos (by omega), if_neg (by omega), if_neg (by omega)]; omega
  · rw [if_neg (by omega), if_pos (by omega), if_neg (by omega)]; omega
  · rw [if_neg (by omega), if_neg (by omega), if_neg (by omega)]; omega
