/-! THE FIRST HEAP; THE PURE STATEMENT -/
theorem z_S : ∀ k : Fin 4, hF_0.1 2 k.1 = -1 ∧ hF_0.1 67 k.1 = -1 := by decide +kernel
theorem z_F : hF_0.1 0 11 = hF_0.1 43 0 ∧ hF_0.1 42 0 = hF_0.1 43 44 := by decide +kernel
theorem z_P : hv_P hF_0 = 0 ∧ hv_B hF_0 = 0 ∧ hv_R hF_0 = 0 ∧ hv_N hF_0 = 0 ∧ hv_W hF_0 = 0 ∧ hv_M hF_0 = 0 := by decide +kernel
theorem z_H : hF_0.1 10 0 = nI 0 ∧ hF_0.1 43 1 = hF_0.1 10 0 ∧ hF_0.1 10 1 = nI 0 ∧ hF_0.1 43 2 = hF_0.1 10 1 ∧ hF_0.1 10 2 = nI 0 ∧ hF_0.1 43 3 = hF_0.1 10 2 ∧ hF_0.1 17 0 = nI 0 ∧ hF_0.1 43 19 = hF_0.1 17 0 ∧ hF_0.1 0 5 = nI 0 ∧ hF_0.1 43 23 = hF_0.1 0 5 ∧ hF_0.1 37 0 = nI 0 ∧ hF_0.1 43 37 = hF_0.1 37 0 := by decide +kernel
theorem z_B : ∀ k : Fin 71, (match l0_B[k.1]? with | some (.inl a) => a.1 != 3 || k.1 == 22 | _ => true) = true := by decide +kernel
theorem z_wf : wf_H l0_B hF_0 := by
  intro k y hy
  have hlen : l0_B.length = 71 := by decide +kernel
  have hap : l0_B ++ hF_0.2.2.2 = l0_B := List.append_nil _
  rw [hap] at hy ⊢
  have hk : k < 71 := by
    have := (List.getElem?_eq_some_iff.mp hy).1
    omega
  refine ⟨fun a ha h3 x o ho => ?_, fun o ho j kd hj => ?_⟩
  · exfalso
    have hb := z_B ⟨k, hk⟩
    subst ha
    have hb : (match l0_B[k]? with | some (.inl a) => a.1 != 3 || k == 22 | _ => true) = true := hb
    rw [hy] at hb
    have hb : (a.1 != 3 || k == 22) = true := hb
    rw [h3] at hb
    have hk22 : k = 22 := by simpa using hb
    subst hk22
    rw [z_22] at ho
    cases ho
  · rcases l0_kinds k hk o (by rw [hy, ho]) kd (List.mem_of_getElem? hj) with q | q
    · exact Or.inl q
    · exact Or.inr (Or.inr (by rw [hlen]; exact q))
theorem inv_0 : Inv 0 hF_0 := by
  obtain ⟨p1, p2, p3, p4, p5, p6⟩ := z_P
  obtain ⟨q1, q2, q3, q4, q5, q6, q7, q8, q9, q10, q11, q12⟩ := z_H
  refine ⟨⟨z_4, fun k hk => Or.inl (z_S ⟨k, hk⟩)⟩, z_F, ⟨⟨by rw [p1]; exact q1, by omega, q2⟩, ⟨by rw [p2]; exact q3, fun h => by omega, q4⟩, ⟨by rw [p3]; exact q5, by omega, q6⟩, fun k hk => by omega⟩, ⟨fun a b ha => by omega, fun a ha => by omega, fun k a b x ha => by omega, fun a x ha => by omega, fun a b ha => by omega⟩, ⟨⟨by rw [p4]; exact q7, by omega, q8⟩, fun p hp => by omega⟩, ⟨⟨by rw [p5]; exact q9, by omega, q10⟩, fun x _ => z_22 x, fun x hx => by omega, fun p hp => by omega⟩, ⟨⟨by rw [p6]; exact q11, by omega, q12⟩, fun k hk => by omega⟩, ⟨Nat.le_refl _, z_wf⟩⟩
theorem law_exit {Ln i : Nat} {xs : Nat → Int32} {h : PH} (hL : Ln ≤ 3584) (hi : i ≤ 3591) (hq : Ln < i + 7) : lb_law Ln xs (nI i) h = some (.inr ()) := by
  have ex : Int32.ofNat Ln - 7 < nI i := by
    have h7 : (7 : Int32).toInt = 7 := rfl
    have hl : (Int32.ofNat Ln).toInt = Ln := nI_toInt (by omega)
    rw [i_lt, i_sub (by omega) (by omega), hl, h7, nI_toInt (by omega)]
    omega
  unfold lb_law
  rw [if_pos ex]
theorem pure_law (Ln : Nat) (xs : Nat → Int32) (hL : Ln ≤ 3584) : ∃ I : Int32 → PH → Prop, I 0 hF_0 ∧ (∀ x h, I x h → wf_H l0_B h) ∧ (∀ x h t, I x h → lb_law Ln xs x h = some (.inl t) → I t.1 t.2) ∧ ∃ y, lp_f (fun s => lb_law Ln xs s.1 s.2) fu_l (0, hF_0) = some y := by
  refine ⟨fun x h => ∃ n : Nat, n ≤ 512 ∧ x = nI (7 * n) ∧ Inv n h, ⟨0, by omega, rfl, inv_0⟩, ?_, ?_, ?_⟩
  · rintro x h ⟨n, _, _, hi⟩
    exact hi.2.2.2.2.2.2.2.2
  · rintro x h t ⟨n, hn, rfl, hi⟩ ht
    by_cases hq : 7 * n + 7 ≤ Ln
    · obtain ⟨h2, e1, e2⟩ := law_step (xs := xs) hL hq hn hi
      rw [e1] at ht
      cases ht
      exact ⟨n + 1, by omega, by show nI (7 * n + 7) = _; congr 1, e2⟩
    · rw [law_exit hL (by omega) (by omega)] at ht
      cases ht
  · obtain ⟨y, y1, _⟩ := lp_0 (body := fun s => lb_law Ln xs s.1 s.2) (fun n s => s.1 = nI (7 * n) ∧ Inv n s.2) (fun _ => True) (Ln / 7) (by omega) (by
      rintro n ⟨x, h⟩ hn ⟨e, hi⟩
      left
      obtain rfl : x = nI (7 * n) := e
      obtain ⟨h2, e1, e2⟩ := law_step (xs := xs) hL (show 7 * n + 7 ≤ Ln by omega) (by omega) hi
      exact ⟨(nI (7 * n + 7), h2), e1, by show nI (7 * n + 7) = _; congr 1, e2⟩) (by
      rintro ⟨x, h⟩ ⟨e, hi⟩
      obtain rfl : x = nI (7 * (Ln / 7)) := e
      exact ⟨(), law_exit hL (by omega) (by omega), trivial⟩) (0, hF_0) ⟨rfl, inv_0⟩
    exact ⟨y, y1⟩
