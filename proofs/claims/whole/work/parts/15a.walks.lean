/-! DISTANCES: what both reckon. Walks over open runs. -/
def Wk (op : Nat → Nat → Nat → Prop) (c : Nat → Nat) : Nat → Nat → Nat → Nat → Prop
  | 0, a, x, l => a = x ∧ l = 0
  | n + 1, a, x, l => ∃ k b l2, op k a b ∧ Wk op c n b x l2 ∧ l = c k + l2
theorem Wk_cat {op : Nat → Nat → Nat → Prop} {c : Nat → Nat} : ∀ {n m a b x l l2 : Nat}, Wk op c n a b l → Wk op c m b x l2 → Wk op c (n + m) a x (l + l2)
  | 0, m, a, b, x, l, l2, h, h2 => by
    obtain ⟨rfl, rfl⟩ := h
    rw [Nat.zero_add, Nat.zero_add]
    exact h2
  | n + 1, m, a, b, x, l, l2, h, h2 => by
    obtain ⟨k, b2, l3, h3, h4, h5⟩ := h
    rw [show n + 1 + m = (n + m) + 1 by omega]
    exact ⟨k, b2, l3 + l2, h3, Wk_cat h4 h2, by omega⟩
/-- a length that some walk has -/
def Wl (op : Nat → Nat → Nat → Prop) (c : Nat → Nat) (a x l : Nat) : Prop := ∃ n, Wk op c n a x l
theorem Wl_0 {op : Nat → Nat → Nat → Prop} {c : Nat → Nat} (a : Nat) : Wl op c a a 0 := ⟨0, rfl, rfl⟩
theorem Wl_1 {op : Nat → Nat → Nat → Prop} {c : Nat → Nat} {k a b : Nat} (h : op k a b) : Wl op c a b (c k) := ⟨1, k, b, 0, h, ⟨rfl, rfl⟩, rfl⟩
theorem Wl_c {op : Nat → Nat → Nat → Prop} {c : Nat → Nat} {a b x l l2 : Nat} (h : Wl op c a b l) (h2 : Wl op c b x l2) : Wl op c a x (l + l2) := by
  obtain ⟨n, h⟩ := h
  obtain ⟨m, h2⟩ := h2
  exact ⟨n + m, Wk_cat h h2⟩
/-- what is closed under runs lies below all walks -/
theorem wk_low {op : Nat → Nat → Nat → Prop} {c : Nat → Nat} {P : Nat} {D : Nat → Nat → Nat} (hlt : ∀ k a b, op k a b → a < P ∧ b < P) (h1 : ∀ a, a < P → D a a = 0) (h2 : ∀ k a b x, a < P → b < P → x < P → op k a b → D a x ≤ c k + D b x) : ∀ {n a x l : Nat}, a < P → x < P → Wk op c n a x l → D a x ≤ l
  | 0, a, x, l, ha, hx, h => by
    obtain ⟨rfl, rfl⟩ := h
    rw [h1 a ha]
    exact Nat.le_refl _
  | n + 1, a, x, l, ha, hx, h => by
    obtain ⟨k, b, l2, h3, h4, h5⟩ := h
    have hb := (hlt k a b h3).2
    have := wk_low hlt h1 h2 hb hx h4
    have := h2 k a b x ha hb hx h3
    omega
theorem cnt_lt {f g : Nat → Bool} : ∀ {P b : Nat}, (∀ y, f y = true → g y = true) → b < P → g b = true → f b = false → cnt f P + 1 ≤ cnt g P
  | 0, b, h, hb, h1, h2 => by omega
  | P + 1, b, h, hb, h1, h2 => by
    have hle : ∀ P, cnt f P ≤ cnt g P := by
      intro P
      induction P with
      | zero => exact Nat.le_refl _
      | succ P ih =>
        show cnt f P + (if f P then 1 else 0) ≤ cnt g P + (if g P then 1 else 0)
        by_cases hf : f P = true
        · rw [if_pos hf, if_pos (h P hf)]; omega
        · rw [if_neg hf]; omega
    show cnt f P + (if f P then 1 else 0) + 1 ≤ cnt g P + (if g P then 1 else 0)
    by_cases hbp : b = P
    · subst hbp
      rw [h1, h2]
      have := hle b
      simp
      exact this
    · have := cnt_lt h (show b < P by omega) h1 h2
      by_cases hf : f P = true
      · rw [if_pos hf, if_pos (h P hf)]; omega
      · rw [if_neg hf]; omega
/-- how many places are nearer to x than a is -/
def nr (P : Nat) (D : Nat → Nat → Nat) (a x : Nat) : Nat := cnt (fun y => decide (D y x < D a x)) P
theorem nr_lt {P : Nat} {D : Nat → Nat → Nat} {a b x : Nat} (hb : b < P) (h : D b x < D a x) : nr P D b x + 1 ≤ nr P D a x := by
  refine cnt_lt (fun y hy => ?_) hb ?_ ?_
  · rw [decide_eq_true_iff] at hy ⊢
    omega
  · rw [decide_eq_true_iff]
    exact h
  · rw [decide_eq_false_iff_not]
    omega
theorem nr_le {P : Nat} {D : Nat → Nat → Nat} {a x : Nat} (ha : a < P) : nr P D a x + 1 ≤ P := by
  have h1 : nr P D a x + 1 ≤ cnt (fun _ => true) P := cnt_lt (fun _ _ => rfl) ha rfl (by rw [decide_eq_false_iff_not]; omega)
  have h2 : cnt (fun _ => true) P ≤ P := cnt_le _ P
  omega
/-- a matrix below all walks, whose entries are lengths of walks, is what the house asks for -/
theorem iv_d_of {op : Nat → Nat → Nat → Prop} {c : Nat → Nat} {P : Nat} {D : Nat → Nat → Nat} (hP : P ≤ 8) (hlt : ∀ k a b, op k a b → a < P ∧ b < P) (hc : ∀ k a b, op k a b → 1000 ≤ c k ∧ c k ≤ 9009) (h1 : ∀ a, a < P → D a a = 0) (h2 : ∀ k a b x, a < P → b < P → x < P → op k a b → D a x ≤ c k + D b x) (h3 : ∀ a x, a < P → x < P → D a x = 1000000 ∨ Wl op c a x (D a x)) (h4 : ∀ a x, a < P → x < P → D a x ≤ 1000000) : iv_d P op c D := by
  have h5 : ∀ a x, a < P → x < P → a ≠ x → D a x < 1000000 → ∃ k b, b < P ∧ op k a b ∧ D a x = c k + D b x := by
    intro a x ha hx hne hlt2
    rcases h3 a x ha hx with q | ⟨n, q⟩
    · omega
    · cases n with
      | zero => exact absurd q.1 hne
      | succ n =>
        obtain ⟨k, b, l2, q1, q2, q3⟩ := q
        have hb := (hlt k a b q1).2
        have e1 := wk_low hlt h1 h2 hb hx q2
        have e2 := h2 k a b x ha hb hx q1
        exact ⟨k, b, hb, q1, by omega⟩
  refine ⟨h1, h2, h5, ?_⟩
  have key : ∀ d a x, a < P → x < P → D a x = d → d < 1000000 → d ≤ 9009 * nr P D a x := by
    intro d
    induction d using Nat.strongRecOn with
    | _ d ih =>
      intro a x ha hx hd hlt2
      by_cases hax : a = x
      · subst hax
        rw [h1 a ha] at hd
        omega
      · obtain ⟨k, b, hb, q1, q2⟩ := h5 a x ha hx hax (by omega)
        have hk := hc k a b q1
        have e1 := ih (D b x) (by omega) b x hb hx rfl (by omega)
        have e2 := nr_lt (P := P) (D := D) (a := a) (x := x) hb (by omega)
        omega
  intro a x ha hx
  by_cases hq : D a x < 1000000
  · left
    have e1 := key (D a x) a x ha hx rfl hq
    have e2 := nr_le (P := P) (D := D) (a := a) (x := x) ha
    omega
  · right
    have := h4 a x ha hx
    omega
/-- where a walk is, the distance is short -/
theorem wk_fin {op : Nat → Nat → Nat → Prop} {c : Nat → Nat} {P : Nat} {D : Nat → Nat → Nat} (hlt : ∀ k a b, op k a b → a < P ∧ b < P) (hc : ∀ k a b, op k a b → 1000 ≤ c k ∧ c k ≤ 9009) (hd : iv_d P op c D) : ∀ {n a x l : Nat}, a < P → x < P → Wk op c n a x l → D a x < 100000
  | 0, a, x, l, ha, hx, h => by
    obtain ⟨rfl, rfl⟩ := h
    rw [hd.1 a ha]
    omega
  | n + 1, a, x, l, ha, hx, h => by
    obtain ⟨k, b, l2, h3, h4, h5⟩ := h
    have hb := (hlt k a b h3).2
    have e1 := wk_fin hlt hc hd hb hx h4
    have e2 := hd.2.1 k a b x ha hb hx h3
    have e3 := hc k a b h3
    rcases hd.2.2.2 a x ha hx with q | q
    · exact q
    · omega
/-- a second matrix, of walks, which comes below the first, is the first -/
theorem d_same {op : Nat → Nat → Nat → Prop} {c : Nat → Nat} {P : Nat} {D F : Nat → Nat → Nat} (hlt : ∀ k a b, op k a b → a < P ∧ b < P) (hc : ∀ k a b, op k a b → 1000 ≤ c k ∧ c k ≤ 9009) (hd : iv_d P op c D) (h3 : ∀ a x, a < P → x < P → F a x = 10000000 ∨ Wl op c a x (F a x)) (h5 : ∀ a x, a < P → x < P → D a x < 1000000 → F a x ≤ D a x) {a x : Nat} (ha : a < P) (hx : x < P) : F a x = if D a x = 1000000 then 10000000 else D a x := by
  by_cases hq : D a x = 1000000
  · rw [if_pos hq]
    rcases h3 a x ha hx with q | ⟨n, q⟩
    · exact q
    · have := wk_fin hlt hc hd ha hx q
      omega
  · rw [if_neg hq]
    have hq2 : D a x < 1000000 := by
      rcases hd.2.2.2 a x ha hx with q | q <;> omega
    have e1 := h5 a x ha hx hq2
    rcases h3 a x ha hx with q | ⟨n, q⟩
    · omega
    · have := wk_low hlt hd.1 hd.2.1 ha hx q
      omega
