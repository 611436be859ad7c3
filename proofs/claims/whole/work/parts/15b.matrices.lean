def mup (M : Nat → Nat → Nat) (a b v : Nat) : Nat → Nat → Nat := fun x y => if x = a ∧ y = b then v else M x y
def sh (M : Nat → Nat → Nat) (a b v : Nat) : Nat → Nat → Nat := mup M a b (min (M a b) v)
theorem sh_le (M : Nat → Nat → Nat) (a b v x y : Nat) : sh M a b v x y ≤ M x y := by
  unfold sh mup
  by_cases h : x = a ∧ y = b
  · rw [if_pos h, h.1, h.2]; omega
  · rw [if_neg h]; omega
theorem sh_v (M : Nat → Nat → Nat) (a b v : Nat) : sh M a b v a b ≤ v := by
  unfold sh mup
  rw [if_pos ⟨rfl, rfl⟩]
  omega
theorem sh_ne {M : Nat → Nat → Nat} {a b v x y : Nat} (h : ¬ (x = a ∧ y = b)) : sh M a b v x y = M x y := by
  unfold sh mup
  rw [if_neg h]
theorem mup_id {M : Nat → Nat → Nat} {a b v : Nat} (h : v = M a b) : mup M a b v = M := by
  funext x y
  unfold mup
  by_cases h2 : x = a ∧ y = b
  · rw [if_pos h2, h, h2.1, h2.2]
  · rw [if_neg h2]
def op_ (R : Nat) (f t : Nat → Nat) (o : Nat → Bool) (k a b : Nat) : Prop := k < R ∧ o k = true ∧ ((f k = a ∧ t k = b) ∨ (f k = b ∧ t k = a))
theorem op_sym {R : Nat} {f t : Nat → Nat} {o : Nat → Bool} {k a b : Nat} (h : op_ R f t o k a b) : op_ R f t o k b a := ⟨h.1, h.2.1, h.2.2.elim Or.inr Or.inl⟩
/-- entries are lengths of walks, or 'far' -/
def Sd (op : Nat → Nat → Nat → Prop) (c : Nat → Nat) (z : Nat) (M : Nat → Nat → Nat) : Prop := ∀ x y, (M x y = z ∨ Wl op c x y (M x y)) ∧ M x y ≤ z
theorem sh_sd {op : Nat → Nat → Nat → Prop} {c : Nat → Nat} {z : Nat} {M : Nat → Nat → Nat} {a b v : Nat} (hs : Sd op c z M) (hv : v < M a b → Wl op c a b v) : Sd op c z (sh M a b v) := by
  intro x y
  refine ⟨?_, Nat.le_trans (sh_le M a b v x y) (hs x y).2⟩
  by_cases h : x = a ∧ y = b
  · obtain ⟨rfl, rfl⟩ := h
    unfold sh mup
    rw [if_pos ⟨rfl, rfl⟩]
    by_cases hq : v < M x y
    · rw [Nat.min_eq_right (by omega)]
      exact Or.inr (hv hq)
    · rw [Nat.min_eq_left (by omega)]
      exact (hs x y).1
  · rw [sh_ne h]
    exact (hs x y).1
def M0 (z : Nat) : Nat → Nat → Nat := fun x y => if x = y then 0 else z
theorem M0_sd {op : Nat → Nat → Nat → Prop} {c : Nat → Nat} {z : Nat} : Sd op c z (M0 z) := by
  intro x y
  unfold M0
  by_cases h : x = y
  · subst h
    rw [if_pos rfl]
    exact ⟨Or.inr (Wl_0 x), by omega⟩
  · rw [if_neg h]
    exact ⟨Or.inl rfl, Nat.le_refl _⟩
/-- class: runs -/
def rn (f t c : Nat → Nat) (o : Nat → Bool) : Nat → Nat → Nat → Nat
  | 0 => M0 1000000
  | k + 1 => if o k then sh (sh (rn f t c o k) (f k) (t k) (c k)) (t k) (f k) (c k) else rn f t c o k
theorem rn_p {f t c : Nat → Nat} {o : Nat → Bool} {P R : Nat} (hf : ∀ k, k < R → f k < P ∧ t k < P) : ∀ {k : Nat}, k ≤ R → Sd (op_ R f t o) c 1000000 (rn f t c o k) ∧ (∀ x, rn f t c o k x x = 0) ∧ (∀ j a b, j < k → op_ R f t o j a b → rn f t c o k a b ≤ c j) ∧ ∀ x y, (P ≤ x ∨ P ≤ y) → rn f t c o k x y = M0 1000000 x y
  | 0, _ => ⟨M0_sd, fun x => by show M0 1000000 x x = 0; unfold M0; rw [if_pos rfl], fun j a b hj => by omega, fun x y _ => rfl⟩
  | k + 1, hk => by
    obtain ⟨i1, i2, i3, i4⟩ := rn_p hf (show k ≤ R by omega)
    obtain ⟨f1, f2⟩ := hf k (by omega)
    show Sd _ c 1000000 (if o k then _ else _) ∧ _
    by_cases ho : o k = true
    · have e : rn f t c o (k + 1) = sh (sh (rn f t c o k) (f k) (t k) (c k)) (t k) (f k) (c k) := by
        show (if o k then _ else _) = _
        rw [if_pos ho]
      rw [e, if_pos ho]
      have o1 : op_ R f t o k (f k) (t k) := ⟨by omega, ho, Or.inl ⟨rfl, rfl⟩⟩
      refine ⟨sh_sd (sh_sd i1 (fun _ => Wl_1 o1)) (fun _ => Wl_1 (op_sym o1)), fun x => ?_, fun j a b hj hop => ?_, fun x y hxy => ?_⟩
      · have h1 := sh_le (sh (rn f t c o k) (f k) (t k) (c k)) (t k) (f k) (c k) x x
        have h2 := sh_le (rn f t c o k) (f k) (t k) (c k) x x
        rw [i2 x] at h2
        omega
      · have h1 := sh_le (sh (rn f t c o k) (f k) (t k) (c k)) (t k) (f k) (c k) a b
        have h2 := sh_le (rn f t c o k) (f k) (t k) (c k) a b
        by_cases hjk : j = k
        · subst hjk
          rcases hop.2.2 with ⟨rfl, rfl⟩ | ⟨rfl, rfl⟩
          · have h3 := sh_v (rn f t c o j) (f j) (t j) (c j)
            omega
          · exact sh_v _ _ _ _
        · have := i3 j a b (by omega) hop
          omega
      · rw [sh_ne (by omega), sh_ne (by omega)]
        exact i4 x y hxy
    · have e : rn f t c o (k + 1) = rn f t c o k := by
        show (if o k then _ else _) = _
        rw [if_neg ho]
      rw [e, if_neg ho]
      refine ⟨i1, i2, fun j a b hj hop => ?_, i4⟩
      by_cases hjk : j = k
      · subst hjk
        exact absurd hop.2.1 ho
      · exact i3 j a b (by omega) hop
/-- class: over every place -/
def fph (P : Nat) (A : Nat → Nat → Nat) (k : Nat) : Nat → Nat → Nat := fun x y => if x < P ∧ y < P then min (A x y) (A x k + A k y) else A x y
def fw (P : Nat) (A : Nat → Nat → Nat) : Nat → Nat → Nat → Nat
  | 0 => A
  | k + 1 => fph P (fw P A k) k
theorem fw_p {op : Nat → Nat → Nat → Prop} {c : Nat → Nat} {P : Nat} {A : Nat → Nat → Nat} (hs : Sd op c 1000000 A) (h0 : ∀ x, A x x = 0) : ∀ {k : Nat}, k ≤ P → Sd op c 1000000 (fw P A k) ∧ (∀ x, fw P A k x x = 0) ∧ (∀ x y, fw P A k x y ≤ A x y) ∧ (∀ j x y, j < k → x < P → y < P → fw P A k x y ≤ fw P A k x j + fw P A k j y) ∧ ∀ x y, (P ≤ x ∨ P ≤ y) → fw P A k x y = A x y
  | 0, _ => ⟨hs, h0, fun _ _ => Nat.le_refl _, fun j x y hj => by omega, fun x y _ => rfl⟩
  | k + 1, hk => by
    obtain ⟨i1, i2, i3, i4, i5⟩ := fw_p hs h0 (show k ≤ P by omega)
    have e : fw P A (k + 1) = fph P (fw P A k) k := rfl
    rw [e]
    have u : ∀ x y, x < P → y < P → fph P (fw P A k) k x y = min (fw P A k x y) (fw P A k x k + fw P A k k y) := fun x y hx hy => by unfold fph; rw [if_pos ⟨hx, hy⟩]
    have u2 : ∀ x y, ¬ (x < P ∧ y < P) → fph P (fw P A k) k x y = fw P A k x y := fun x y h => by unfold fph; rw [if_neg h]
    have ule : ∀ x y, fph P (fw P A k) k x y ≤ fw P A k x y := by
      intro x y
      by_cases h : x < P ∧ y < P
      · rw [u x y h.1 h.2]; omega
      · rw [u2 x y h]; omega
    have uk1 : ∀ x, x < P → fph P (fw P A k) k x k = fw P A k x k := by
      intro x hx
      rw [u x k hx (by omega), i2 k]
      omega
    have uk2 : ∀ y, y < P → fph P (fw P A k) k k y = fw P A k k y := by
      intro y hy
      rw [u k y (by omega) hy, i2 k]
      omega
    refine ⟨fun x y => ?_, fun x => ?_, fun x y => Nat.le_trans (ule x y) (i3 x y), fun j x y hj hx hy => ?_, fun x y hxy => ?_⟩
    · refine ⟨?_, Nat.le_trans (ule x y) (i1 x y).2⟩
      by_cases h : x < P ∧ y < P
      · rw [u x y h.1 h.2]
        by_cases hq : fw P A k x k + fw P A k k y < fw P A k x y
        · rw [Nat.min_eq_right (by omega)]
          have b := (i1 x y).2
          right
          rcases (i1 x k).1 with q | q
          · omega
          · rcases (i1 k y).1 with q2 | q2
            · omega
            · exact Wl_c q q2
        · rw [Nat.min_eq_left (by omega)]
          exact (i1 x y).1
      · rw [u2 x y h]
        exact (i1 x y).1
    · have := ule x x
      rw [i2 x] at this
      omega
    · by_cases hjk : j = k
      · subst hjk
        rw [uk1 x hx, uk2 y hy, u x y hx hy]
        omega
      · have t1 := i4 j x y (by omega) hx hy
        have t2 := i4 j k y (by omega) (by omega) hy
        have t3 := i4 j x k (by omega) hx (by omega)
        rw [u x y hx hy, u x j hx (by omega), u j y (by omega) hy]
        omega
    · rw [u2 x y (by omega)]
      exact i5 x y hxy
/-- class: the whole of it -/
theorem fw_ivd {f t c : Nat → Nat} {o : Nat → Bool} {P R : Nat} (hP : P ≤ 8) (hf : ∀ k, k < R → f k < P ∧ t k < P) (hc : ∀ k, k < R → 1000 ≤ c k ∧ c k ≤ 9009) : iv_d P (op_ R f t o) c (fw P (rn f t c o R) P) ∧ (∀ x y, fw P (rn f t c o R) P x y ≤ 1000000) ∧ ∀ x y, (P ≤ x ∨ P ≤ y) → fw P (rn f t c o R) P x y = M0 1000000 x y := by
  obtain ⟨r1, r2, r3, r4⟩ := rn_p (c := c) (o := o) hf (Nat.le_refl R)
  obtain ⟨w1, w2, w3, w4, w5⟩ := fw_p r1 r2 (Nat.le_refl P)
  refine ⟨iv_d_of hP (fun k a b h => ?_) (fun k a b h => hc k h.1) (fun a _ => w2 a) (fun k a b x ha hb hx h => ?_) (fun a x _ _ => (w1 a x).1) (fun a x _ _ => (w1 a x).2), fun x y => (w1 x y).2, fun x y h => by rw [w5 x y h, r4 x y h]⟩
  · obtain ⟨f1, f2⟩ := hf k h.1
    rcases h.2.2 with ⟨rfl, rfl⟩ | ⟨rfl, rfl⟩
    · exact ⟨f1, f2⟩
    · exact ⟨f2, f1⟩
  · have e1 := w4 b a x hb ha hx
    have e2 := w3 a b
    have e3 := r3 k a b h.1 h
    omega
/-- reference: one run, one column -/
def rst (F : Nat → Nat → Nat) (f t c b : Nat) : Nat → Nat → Nat := sh (sh F f b (F t b + c)) t b ((sh F f b (F t b + c)) f b + c)
def rc (f t c : Nat) (F : Nat → Nat → Nat) : Nat → Nat → Nat → Nat
  | 0 => F
  | b + 1 => rst (rc f t c F b) f t c b
def rk (P : Nat) (f t c : Nat → Nat) (o : Nat → Bool) (F : Nat → Nat → Nat) : Nat → Nat → Nat → Nat
  | 0 => F
  | k + 1 => if o k then rc (f k) (t k) (c k) (rk P f t c o F k) P else rk P f t c o F k
def rr (P R : Nat) (f t c : Nat → Nat) (o : Nat → Bool) : Nat → Nat → Nat → Nat
  | 0 => M0 10000000
  | r + 1 => rk P f t c o (rr P R f t c o r) R
theorem rst_le (F : Nat → Nat → Nat) (f t c b x y : Nat) : rst F f t c b x y ≤ F x y := Nat.le_trans (sh_le _ _ _ _ _ _) (sh_le _ _ _ _ _ _)
theorem rst_1 (F : Nat → Nat → Nat) (f t c b : Nat) : rst F f t c b f b ≤ F t b + c := Nat.le_trans (sh_le _ _ _ _ _ _) (sh_v _ _ _ _)
theorem rst_2 (F : Nat → Nat → Nat) (f t c b : Nat) : rst F f t c b t b ≤ F f b + c := by
  have h1 := sh_v (sh F f b (F t b + c)) t b ((sh F f b (F t b + c)) f b + c)
  have h2 := sh_le F f b (F t b + c) f b
  unfold rst
  omega
theorem rc_le (f t c : Nat) (F : Nat → Nat → Nat) (x y : Nat) : ∀ b, rc f t c F b x y ≤ F x y
  | 0 => Nat.le_refl _
  | b + 1 => Nat.le_trans (rst_le _ _ _ _ _ _ _) (rc_le f t c F x y b)
theorem rc_p (f t c : Nat) (F : Nat → Nat → Nat) : ∀ {P y : Nat}, y < P → rc f t c F P f y ≤ F t y + c ∧ rc f t c F P t y ≤ F f y + c
  | 0, y, h => by omega
  | P + 1, y, h => by
    show rst (rc f t c F P) f t c P f y ≤ _ ∧ rst (rc f t c F P) f t c P t y ≤ _
    by_cases hy : y = P
    · subst hy
      have h1 := rst_1 (rc f t c F y) f t c y
      have h2 := rst_2 (rc f t c F y) f t c y
      have h3 := rc_le f t c F t y y
      have h4 := rc_le f t c F f y y
      omega
    · have := rc_p f t c F (show y < P by omega)
      have h1 := rst_le (rc f t c F P) f t c P f y
      have h2 := rst_le (rc f t c F P) f t c P t y
      omega
theorem rk_le (P : Nat) (f t c : Nat → Nat) (o : Nat → Bool) (F : Nat → Nat → Nat) (x y : Nat) : ∀ k, rk P f t c o F k x y ≤ F x y
  | 0 => Nat.le_refl _
  | k + 1 => by
    show (if o k then rc (f k) (t k) (c k) (rk P f t c o F k) P else rk P f t c o F k) x y ≤ _
    have ih := rk_le P f t c o F x y k
    by_cases h : o k = true
    · rw [if_pos h]
      exact Nat.le_trans (rc_le _ _ _ _ _ _ _) ih
    · rw [if_neg h]
      exact ih
theorem rk_p {P R : Nat} {f t c : Nat → Nat} {o : Nat → Bool} (F : Nat → Nat → Nat) : ∀ {k j a b y : Nat}, j < k → y < P → op_ R f t o j a b → rk P f t c o F k a y ≤ c j + F b y
  | 0, j, a, b, y, h, hy, hop => by omega
  | k + 1, j, a, b, y, h, hy, hop => by
    show (if o k then rc (f k) (t k) (c k) (rk P f t c o F k) P else rk P f t c o F k) a y ≤ _
    by_cases hjk : j = k
    · subst hjk
      rw [if_pos hop.2.1]
      obtain ⟨p1, p2⟩ := rc_p (f j) (t j) (c j) (rk P f t c o F j) hy
      have h1 := rk_le P f t c o F b y j
      rcases hop.2.2 with ⟨rfl, rfl⟩ | ⟨rfl, rfl⟩ <;> omega
    · have ih := rk_p (c := c) F (show j < k by omega) hy hop
      by_cases ho : o k = true
      · rw [if_pos ho]
        exact Nat.le_trans (rc_le _ _ _ _ _ _ _) ih
      · rw [if_neg ho]
        exact ih
theorem rst_sd {op : Nat → Nat → Nat → Prop} {c : Nat → Nat} {F : Nat → Nat → Nat} {k f t b : Nat} (hs : Sd op c 10000000 F) (h1 : op k f t) (h2 : op k t f) : Sd op c 10000000 (rst F f t (c k) b) := by
  have s1 : Sd op c 10000000 (sh F f b (F t b + c k)) := by
    refine sh_sd hs (fun hq => ?_)
    rcases (hs t b).1 with q | q
    · have := (hs f b).2
      omega
    · rw [Nat.add_comm]
      exact Wl_c (Wl_1 h1) q
  refine sh_sd s1 (fun hq => ?_)
  rcases (s1 f b).1 with q | q
  · have := (s1 t b).2
    omega
  · rw [Nat.add_comm]
    exact Wl_c (Wl_1 h2) q
theorem rc_sd {op : Nat → Nat → Nat → Prop} {c : Nat → Nat} {F : Nat → Nat → Nat} {k f t : Nat} (hs : Sd op c 10000000 F) (h1 : op k f t) (h2 : op k t f) : ∀ b, Sd op c 10000000 (rc f t (c k) F b)
  | 0 => hs
  | b + 1 => rst_sd (rc_sd hs h1 h2 b) h1 h2
theorem rc_out {f t c P : Nat} {F : Nat → Nat → Nat} (hf : f < P) (ht : t < P) {x y : Nat} (h : P ≤ x ∨ P ≤ y) : ∀ {b : Nat}, b ≤ P → rc f t c F b x y = F x y
  | 0, _ => rfl
  | b + 1, hb => by
    show rst (rc f t c F b) f t c b x y = _
    unfold rst
    rw [sh_ne (by omega), sh_ne (by omega)]
    exact rc_out hf ht h (by omega)
theorem rk_sd {P R : Nat} {f t c : Nat → Nat} {o : Nat → Bool} {F : Nat → Nat → Nat} (hf : ∀ k, k < R → f k < P ∧ t k < P) (hs : Sd (op_ R f t o) c 10000000 F) : ∀ {k : Nat}, k ≤ R → Sd (op_ R f t o) c 10000000 (rk P f t c o F k) ∧ ∀ x y, (P ≤ x ∨ P ≤ y) → rk P f t c o F k x y = F x y
  | 0, _ => ⟨hs, fun _ _ _ => rfl⟩
  | k + 1, hk => by
    obtain ⟨i1, i2⟩ := rk_sd hf hs (show k ≤ R by omega)
    obtain ⟨f1, f2⟩ := hf k (by omega)
    by_cases ho : o k = true
    · have e : rk P f t c o F (k + 1) = rc (f k) (t k) (c k) (rk P f t c o F k) P := by
        show (if o k then _ else _) = _
        rw [if_pos ho]
      have o1 : op_ R f t o k (f k) (t k) := ⟨by omega, ho, Or.inl ⟨rfl, rfl⟩⟩
      rw [e]
      exact ⟨rc_sd i1 o1 (op_sym o1) P, fun x y h => by rw [rc_out f1 f2 h (Nat.le_refl P), i2 x y h]⟩
    · have e : rk P f t c o F (k + 1) = rk P f t c o F k := by
        show (if o k then _ else _) = _
        rw [if_neg ho]
      rw [e]
      exact ⟨i1, i2⟩
theorem rr_sd {P R : Nat} {f t c : Nat → Nat} {o : Nat → Bool} (hf : ∀ k, k < R → f k < P ∧ t k < P) : ∀ r, Sd (op_ R f t o) c 10000000 (rr P R f t c o r) ∧ ∀ x y, (P ≤ x ∨ P ≤ y) → rr P R f t c o r x y = M0 10000000 x y
  | 0 => ⟨M0_sd, fun _ _ _ => rfl⟩
  | r + 1 => by
    obtain ⟨i1, i2⟩ := rr_sd (c := c) (o := o) hf r
    obtain ⟨j1, j2⟩ := rk_sd hf i1 (Nat.le_refl R)
    exact ⟨j1, fun x y h => by rw [← i2 x y h]; exact j2 x y h⟩
theorem rr_low {P R : Nat} {f t c : Nat → Nat} {o : Nat → Bool} {D : Nat → Nat → Nat} (hc : ∀ k, k < R → 1000 ≤ c k ∧ c k ≤ 9009) (hd : iv_d P (op_ R f t o) c D) : ∀ (r a x : Nat), a < P → x < P → D a x < 1000000 → nr P D a x ≤ r → rr P R f t c o r a x ≤ D a x
  | 0, a, x, ha, hx, hq, hn => by
    by_cases hax : a = x
    · subst hax
      show M0 10000000 a a ≤ _
      unfold M0
      rw [if_pos rfl]
      omega
    · exfalso
      obtain ⟨k, b, hb, h1, h2⟩ := hd.2.2.1 a x ha hx hax hq
      have := hc k h1.1
      have := nr_lt (P := P) (D := D) (a := a) (x := x) hb (by omega)
      omega
  | r + 1, a, x, ha, hx, hq, hn => by
    show rk P f t c o (rr P R f t c o r) R a x ≤ D a x
    by_cases hax : a = x
    · subst hax
      have h1 := rk_le P f t c o (rr P R f t c o r) a a R
      have h0 := hd.1 a ha
      have h2 := rr_low hc hd r a a ha ha hq (by
        have : nr P D a a = 0 := by
          unfold nr
          rw [h0]
          have : ∀ Q, cnt (fun y => decide (D y a < 0)) Q = 0 := by
            intro Q
            induction Q with
            | zero => rfl
            | succ Q ih =>
              show cnt _ Q + (if decide (D Q a < 0) then 1 else 0) = 0
              rw [ih, if_neg (by rw [decide_eq_true_iff]; omega)]
          exact this P
        omega)
      omega
    · obtain ⟨k, b, hb, h1, h2⟩ := hd.2.2.1 a x ha hx hax hq
      have hck := hc k h1.1
      have e1 := nr_lt (P := P) (D := D) (a := a) (x := x) hb (by omega)
      have e2 := rr_low hc hd r b x hb hx (by omega) (by omega)
      have e3 := rk_p (c := c) (rr P R f t c o r) h1.1 hx h1
      omega
/-- both reckon the same -/
theorem rr_same {P R : Nat} {f t c : Nat → Nat} {o : Nat → Bool} (hP : P ≤ 8) (hf : ∀ k, k < R → f k < P ∧ t k < P) (hc : ∀ k, k < R → 1000 ≤ c k ∧ c k ≤ 9009) (x y : Nat) : rr P R f t c o (P - 1) x y = if fw P (rn f t c o R) P x y = 1000000 then 10000000 else fw P (rn f t c o R) P x y := by
  obtain ⟨d1, d2, d3⟩ := fw_ivd (o := o) hP hf hc
  obtain ⟨s1, s2⟩ := rr_sd (c := c) (o := o) hf (P - 1)
  by_cases h : x < P ∧ y < P
  · refine d_same (P := P) (fun k a b h => ?_) (fun k a b h => hc k h.1) d1 (fun a x _ _ => (s1 a x).1) (fun a x ha hx hq => rr_low hc d1 (P - 1) a x ha hx hq ?_) h.1 h.2
    · obtain ⟨f1, f2⟩ := hf k h.1
      rcases h.2.2 with ⟨rfl, rfl⟩ | ⟨rfl, rfl⟩
      · exact ⟨f1, f2⟩
      · exact ⟨f2, f1⟩
    · have := nr_le (P := P) (D := fw P (rn f t c o R) P) (a := a) (x := x) ha
      omega
  · rw [s2 x y (by omega), d3 x y (by omega)]
    unfold M0
    by_cases hxy : x = y
    · rw [if_pos hxy, if_pos hxy, if_neg (by decide)]
    · rw [if_neg hxy, if_neg hxy, if_pos rfl]
