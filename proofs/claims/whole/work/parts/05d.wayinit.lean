set_option maxRecDepth 100000 in
theorem ci_X1_init_X1 (o a : Nat) (x1 x2 : Int32) (h : PH) (ho : (l0_B ++ h.2.2.2)[o]? = some (.inr (1, [(0, 0), (0, 0), (2, a)]))) : ConA yX1_init wsX1_init (rm_a 1 0 0) l0_B [.ref o, .int x1, .int x2, .ref a] h none (ph_i (ph_i (ph_i h o 0 x1) o 1 x2) o 2 1) := by
  have hn1 : ∀ w ∈ wsX10, w ∈ wsX1_init := (fun _ hw => (List.mem_cons_of_mem _ (List.mem_append_left _ (List.mem_append_left _ (List.mem_append_right _ hw)))))
  refine con_vA (cc := cX1_init) (nL := 4) (by decide) rfl (Nat.le_of_ble_eq_true rfl) ?_
  intro C hC hret hAR hini
  replace hini := hini rfl
  change Go l0_B C 0 0 0 [(0, .ref o), (1, .int x1), (2, .int x2), (3, .ref a)] [] h
  refine go_aload_n hC dX1_init_0 rfl 0 rfl ?_
  refine go_obj hC (List.mem_cons_of_mem _ (List.mem_append_left _ (List.mem_append_left _ (List.mem_append_left _ (List.mem_of_getElem? (i := 0) rfl))))) (List.mem_cons_of_mem _ (List.mem_append_left _ (List.mem_append_left _ (List.mem_append_left _ (List.mem_of_getElem? (i := 1) rfl))))) (List.mem_cons_of_mem _ (List.mem_append_left _ (List.mem_append_left _ (List.mem_append_left _ (List.mem_of_getElem? (i := 2) rfl))))) ⟨Nat.le_of_ble_eq_true rfl, Nat.le_of_ble_eq_true rfl⟩ dX1_init_1 ?_
  refine go_aload_n hC dX1_init_4 rfl 0 rfl ?_
  refine go_iload_n hC dX1_init_5 rfl 1 rfl ?_
  refine go_putiF hC (j := 0) (idx := 9) (nm := "number") (ds := "I") tyX1 hini ho rfl rfl hn1 tyX1_ok nmX1 (Nat.le_of_ble_eq_true rfl) rfl rfl (List.mem_cons_of_mem _ (List.mem_append_left _ (List.mem_append_left _ (List.mem_append_left _ (List.mem_of_getElem? (i := 3) rfl))))) rfl rfl (tyX1_ok _ (Nat.le_of_ble_eq_true rfl)) dX1_init_6 ?_
  refine go_aload_n hC dX1_init_9 rfl 0 rfl ?_
  refine go_iload_n hC dX1_init_10 rfl 2 rfl ?_
  refine go_putiF hC (j := 1) (idx := 15) (nm := "fuse") (ds := "I") tyX1 hini ho rfl rfl hn1 tyX1_ok nmX1 (Nat.le_of_ble_eq_true rfl) rfl rfl (List.mem_cons_of_mem _ (List.mem_append_left _ (List.mem_append_left _ (List.mem_append_left _ (List.mem_of_getElem? (i := 4) rfl))))) rfl rfl (tyX1_ok _ (Nat.le_of_ble_eq_true rfl)) dX1_init_11 ?_
  refine go_aload_n hC dX1_init_14 rfl 0 rfl ?_
  refine go_aload_n hC dX1_init_15 rfl 3 rfl ?_
  refine go_putqF hC (j := 2) (idx := 18) (nm := "stops") (ds := "[I") tyX1 hini ho rfl rfl hn1 tyX1_ok nmX1 (Nat.le_of_ble_eq_true rfl) rfl rfl (List.mem_cons_of_mem _ (List.mem_append_left _ (List.mem_append_left _ (List.mem_append_left _ (List.mem_of_getElem? (i := 5) rfl))))) rfl rfl (tyX1_ok _ (Nat.le_of_ble_eq_true rfl)) (fun _ => ⟨rfl, rfl⟩) dX1_init_16 ?_
  exact hret _ _ dX1_init_19
set_option maxRecDepth 100000 in
theorem ci_X1_init_X7 (o a : Nat) (x1 x2 : Int32) (h : PH) (ho : (l0_B ++ h.2.2.2)[o]? = some (.inr (7, [(0, 0), (0, 0), (2, a)]))) : ConA yX1_init wsX1_init (rm_a 1 0 0) l0_B [.ref o, .int x1, .int x2, .ref a] h none (ph_i (ph_i (ph_i h o 0 x1) o 1 x2) o 2 1) := by
  have hn7 : ∀ w ∈ wsX70, w ∈ wsX1_init := (fun _ hw => (List.mem_cons_of_mem _ (List.mem_append_left _ (List.mem_append_right _ hw))))
  refine con_vA (cc := cX1_init) (nL := 4) (by decide) rfl (Nat.le_of_ble_eq_true rfl) ?_
  intro C hC hret hAR hini
  replace hini := hini rfl
  change Go l0_B C 0 0 0 [(0, .ref o), (1, .int x1), (2, .int x2), (3, .ref a)] [] h
  refine go_aload_n hC dX1_init_0 rfl 0 rfl ?_
  refine go_obj hC (List.mem_cons_of_mem _ (List.mem_append_left _ (List.mem_append_left _ (List.mem_append_left _ (List.mem_of_getElem? (i := 0) rfl))))) (List.mem_cons_of_mem _ (List.mem_append_left _ (List.mem_append_left _ (List.mem_append_left _ (List.mem_of_getElem? (i := 1) rfl))))) (List.mem_cons_of_mem _ (List.mem_append_left _ (List.mem_append_left _ (List.mem_append_left _ (List.mem_of_getElem? (i := 2) rfl))))) ⟨Nat.le_of_ble_eq_true rfl, Nat.le_of_ble_eq_true rfl⟩ dX1_init_1 ?_
  refine go_aload_n hC dX1_init_4 rfl 0 rfl ?_
  refine go_iload_n hC dX1_init_5 rfl 1 rfl ?_
  refine go_putiF hC (j := 0) (idx := 9) (nm := "number") (ds := "I") tyX7 hini ho rfl rfl hn7 tyX7_ok nmX7 (Nat.le_of_ble_eq_true rfl) rfl rfl (List.mem_cons_of_mem _ (List.mem_append_left _ (List.mem_append_left _ (List.mem_append_left _ (List.mem_of_getElem? (i := 3) rfl))))) rfl rfl (tyX7_ok _ (Nat.le_of_ble_eq_true rfl)) dX1_init_6 ?_
  refine go_aload_n hC dX1_init_9 rfl 0 rfl ?_
  refine go_iload_n hC dX1_init_10 rfl 2 rfl ?_
  refine go_putiF hC (j := 1) (idx := 15) (nm := "fuse") (ds := "I") tyX7 hini ho rfl rfl hn7 tyX7_ok nmX7 (Nat.le_of_ble_eq_true rfl) rfl rfl (List.mem_cons_of_mem _ (List.mem_append_left _ (List.mem_append_left _ (List.mem_append_left _ (List.mem_of_getElem? (i := 4) rfl))))) rfl rfl (tyX7_ok _ (Nat.le_of_ble_eq_true rfl)) dX1_init_11 ?_
  refine go_aload_n hC dX1_init_14 rfl 0 rfl ?_
  refine go_aload_n hC dX1_init_15 rfl 3 rfl ?_
  refine go_putqF hC (j := 2) (idx := 18) (nm := "stops") (ds := "[I") tyX7 hini ho rfl rfl hn7 tyX7_ok nmX7 (Nat.le_of_ble_eq_true rfl) rfl rfl (List.mem_cons_of_mem _ (List.mem_append_left _ (List.mem_append_left _ (List.mem_append_left _ (List.mem_of_getElem? (i := 5) rfl))))) rfl rfl (tyX7_ok _ (Nat.le_of_ble_eq_true rfl)) (fun _ => ⟨rfl, rfl⟩) dX1_init_16 ?_
  exact hret _ _ dX1_init_19
set_option maxRecDepth 100000 in
theorem ci_X1_init_X9 (o a : Nat) (x1 x2 : Int32) (h : PH) (ho : (l0_B ++ h.2.2.2)[o]? = some (.inr (9, [(0, 0), (0, 0), (2, a)]))) : ConA yX1_init wsX1_init (rm_a 1 0 0) l0_B [.ref o, .int x1, .int x2, .ref a] h none (ph_i (ph_i (ph_i h o 0 x1) o 1 x2) o 2 1) := by
  have hn9 : ∀ w ∈ wsX90, w ∈ wsX1_init := (fun _ hw => (List.mem_cons_of_mem _ (List.mem_append_right _ hw)))
  refine con_vA (cc := cX1_init) (nL := 4) (by decide) rfl (Nat.le_of_ble_eq_true rfl) ?_
  intro C hC hret hAR hini
  replace hini := hini rfl
  change Go l0_B C 0 0 0 [(0, .ref o), (1, .int x1), (2, .int x2), (3, .ref a)] [] h
  refine go_aload_n hC dX1_init_0 rfl 0 rfl ?_
  refine go_obj hC (List.mem_cons_of_mem _ (List.mem_append_left _ (List.mem_append_left _ (List.mem_append_left _ (List.mem_of_getElem? (i := 0) rfl))))) (List.mem_cons_of_mem _ (List.mem_append_left _ (List.mem_append_left _ (List.mem_append_left _ (List.mem_of_getElem? (i := 1) rfl))))) (List.mem_cons_of_mem _ (List.mem_append_left _ (List.mem_append_left _ (List.mem_append_left _ (List.mem_of_getElem? (i := 2) rfl))))) ⟨Nat.le_of_ble_eq_true rfl, Nat.le_of_ble_eq_true rfl⟩ dX1_init_1 ?_
  refine go_aload_n hC dX1_init_4 rfl 0 rfl ?_
  refine go_iload_n hC dX1_init_5 rfl 1 rfl ?_
  refine go_putiF hC (j := 0) (idx := 9) (nm := "number") (ds := "I") tyX9 hini ho rfl rfl hn9 tyX9_ok nmX9 (Nat.le_of_ble_eq_true rfl) rfl rfl (List.mem_cons_of_mem _ (List.mem_append_left _ (List.mem_append_left _ (List.mem_append_left _ (List.mem_of_getElem? (i := 3) rfl))))) rfl rfl (tyX9_ok _ (Nat.le_of_ble_eq_true rfl)) dX1_init_6 ?_
  refine go_aload_n hC dX1_init_9 rfl 0 rfl ?_
  refine go_iload_n hC dX1_init_10 rfl 2 rfl ?_
  refine go_putiF hC (j := 1) (idx := 15) (nm := "fuse") (ds := "I") tyX9 hini ho rfl rfl hn9 tyX9_ok nmX9 (Nat.le_of_ble_eq_true rfl) rfl rfl (List.mem_cons_of_mem _ (List.mem_append_left _ (List.mem_append_left _ (List.mem_append_left _ (List.mem_of_getElem? (i := 4) rfl))))) rfl rfl (tyX9_ok _ (Nat.le_of_ble_eq_true rfl)) dX1_init_11 ?_
  refine go_aload_n hC dX1_init_14 rfl 0 rfl ?_
  refine go_aload_n hC dX1_init_15 rfl 3 rfl ?_
  refine go_putqF hC (j := 2) (idx := 18) (nm := "stops") (ds := "[I") tyX9 hini ho rfl rfl hn9 tyX9_ok nmX9 (Nat.le_of_ble_eq_true rfl) rfl rfl (List.mem_cons_of_mem _ (List.mem_append_left _ (List.mem_append_left _ (List.mem_append_left _ (List.mem_of_getElem? (i := 5) rfl))))) rfl rfl (tyX9_ok _ (Nat.le_of_ble_eq_true rfl)) (fun _ => ⟨rfl, rfl⟩) dX1_init_16 ?_
  exact hret _ _ dX1_init_19
set_option maxRecDepth 100000 in
theorem ci_X7_init_X7 (o a : Nat) {n : Nat} (x1 x2 : Int32) (h : PH) (ho : (l0_B ++ h.2.2.2)[o]? = some (.inr (7, [(0, 0), (0, 0), (2, a)]))) (ha : (l0_B ++ h.2.2.2)[a]? = some (.inl (0, n))) : ConA yX7_init wsX7_init (rm_a 2 0 0) l0_B [.ref o, .int x1, .int x2, .ref a] h none (ph_i (ph_i (ph_i h o 0 x1) o 1 x2) o 2 1) := by
  refine con_vA (cc := cX7_init) (nL := 4) (by decide) rfl (Nat.le_of_ble_eq_true rfl) ?_
  intro C hC hret hAR hini
  change Go l0_B C 0 0 0 [(0, .ref o), (1, .int x1), (2, .int x2), (3, .ref a)] [] h
  obtain ⟨N0, hN0⟩ : ∃ N, (l0_B ++ h.2.2.2).length = N := ⟨_, rfl⟩
  have ho1 : o < N0 := hN0 ▸ (List.getElem?_eq_some_iff.mp ho).1
  have ha1 : a < N0 := hN0 ▸ (List.getElem?_eq_some_iff.mp ha).1
  refine go_aload_n hC dX7_init_0 rfl 0 rfl ?_
  refine go_iload_n hC dX7_init_1 rfl 1 rfl ?_
  refine go_iload_n hC dX7_init_2 rfl 2 rfl ?_
  refine go_aload_n hC dX7_init_3 rfl 3 rfl ?_
  refine go_callI hC (ci_X1_init_X7 o a x1 x2 h ho) gX7_init_X1_init rfl 0 0 ⟨rfl, rfl⟩ (List.mem_cons_of_mem _ (List.mem_append_left _ (List.mem_append_left _ (List.mem_append_left _ (List.mem_of_getElem? (i := 2) rfl))))) (List.mem_cons_of_mem _ (List.mem_append_left _ (List.mem_append_left _ (List.mem_append_left _ (List.mem_of_getElem? (i := 0) rfl))))) (List.mem_cons_of_mem _ (List.mem_append_left _ (List.mem_append_left _ (List.mem_append_left _ (List.mem_of_getElem? (i := 1) rfl))))) rfl 3 (by decide +kernel) ⟨Nat.le_of_ble_eq_true rfl, Nat.le_of_ble_eq_true rfl⟩ rfl (st := []) rfl (Nat.le_of_ble_eq_true rfl) ⟨Nat.le_of_ble_eq_true rfl, Nat.le_of_ble_eq_true rfl⟩ hN0 (hAR N0 (by omega)) (by intro q hq b hb; simp only [List.mem_cons, List.not_mem_nil, or_false] at hq; rcases hq with rfl | rfl | rfl | rfl <;> cases hb <;> exact Or.inl (by assumption)) (by simp) dX7_init_4 ?_
  exact hret _ _ dX7_init_7
set_option maxRecDepth 100000 in
theorem ci_X7_init_X9 (o a : Nat) {n : Nat} (x1 x2 : Int32) (h : PH) (ho : (l0_B ++ h.2.2.2)[o]? = some (.inr (9, [(0, 0), (0, 0), (2, a)]))) (ha : (l0_B ++ h.2.2.2)[a]? = some (.inl (0, n))) : ConA yX7_init wsX7_init (rm_a 2 0 0) l0_B [.ref o, .int x1, .int x2, .ref a] h none (ph_i (ph_i (ph_i h o 0 x1) o 1 x2) o 2 1) := by
  refine con_vA (cc := cX7_init) (nL := 4) (by decide) rfl (Nat.le_of_ble_eq_true rfl) ?_
  intro C hC hret hAR hini
  change Go l0_B C 0 0 0 [(0, .ref o), (1, .int x1), (2, .int x2), (3, .ref a)] [] h
  obtain ⟨N0, hN0⟩ : ∃ N, (l0_B ++ h.2.2.2).length = N := ⟨_, rfl⟩
  have ho1 : o < N0 := hN0 ▸ (List.getElem?_eq_some_iff.mp ho).1
  have ha1 : a < N0 := hN0 ▸ (List.getElem?_eq_some_iff.mp ha).1
  refine go_aload_n hC dX7_init_0 rfl 0 rfl ?_
  refine go_iload_n hC dX7_init_1 rfl 1 rfl ?_
  refine go_iload_n hC dX7_init_2 rfl 2 rfl ?_
  refine go_aload_n hC dX7_init_3 rfl 3 rfl ?_
  refine go_callI hC (ci_X1_init_X9 o a x1 x2 h ho) gX7_init_X1_init rfl 0 0 ⟨rfl, rfl⟩ (List.mem_cons_of_mem _ (List.mem_append_left _ (List.mem_append_left _ (List.mem_append_left _ (List.mem_of_getElem? (i := 2) rfl))))) (List.mem_cons_of_mem _ (List.mem_append_left _ (List.mem_append_left _ (List.mem_append_left _ (List.mem_of_getElem? (i := 0) rfl))))) (List.mem_cons_of_mem _ (List.mem_append_left _ (List.mem_append_left _ (List.mem_append_left _ (List.mem_of_getElem? (i := 1) rfl))))) rfl 3 (by decide +kernel) ⟨Nat.le_of_ble_eq_true rfl, Nat.le_of_ble_eq_true rfl⟩ rfl (st := []) rfl (Nat.le_of_ble_eq_true rfl) ⟨Nat.le_of_ble_eq_true rfl, Nat.le_of_ble_eq_true rfl⟩ hN0 (hAR N0 (by omega)) (by intro q hq b hb; simp only [List.mem_cons, List.not_mem_nil, or_false] at hq; rcases hq with rfl | rfl | rfl | rfl <;> cases hb <;> exact Or.inl (by assumption)) (by simp) dX7_init_4 ?_
  exact hret _ _ dX7_init_7
set_option maxRecDepth 100000 in
theorem ci_X9_init_X9 (o a : Nat) {n : Nat} (x1 x2 : Int32) (h : PH) (ho : (l0_B ++ h.2.2.2)[o]? = some (.inr (9, [(0, 0), (0, 0), (2, a)]))) (ha : (l0_B ++ h.2.2.2)[a]? = some (.inl (0, n))) : ConA yX9_init wsX9_init (rm_a 3 0 0) l0_B [.ref o, .int x1, .int x2, .ref a] h none (ph_i (ph_i (ph_i h o 0 x1) o 1 x2) o 2 1) := by
  refine con_vA (cc := cX9_init) (nL := 4) (by decide) rfl (Nat.le_of_ble_eq_true rfl) ?_
  intro C hC hret hAR hini
  change Go l0_B C 0 0 0 [(0, .ref o), (1, .int x1), (2, .int x2), (3, .ref a)] [] h
  obtain ⟨N0, hN0⟩ : ∃ N, (l0_B ++ h.2.2.2).length = N := ⟨_, rfl⟩
  have ho1 : o < N0 := hN0 ▸ (List.getElem?_eq_some_iff.mp ho).1
  have ha1 : a < N0 := hN0 ▸ (List.getElem?_eq_some_iff.mp ha).1
  refine go_aload_n hC dX9_init_0 rfl 0 rfl ?_
  refine go_iload_n hC dX9_init_1 rfl 1 rfl ?_
  refine go_iload_n hC dX9_init_2 rfl 2 rfl ?_
  refine go_aload_n hC dX9_init_3 rfl 3 rfl ?_
  refine go_callI hC (ci_X7_init_X9 o a x1 x2 h ho ha) gX9_init_X7_init rfl 0 0 ⟨rfl, rfl⟩ (List.mem_cons_of_mem _ (List.mem_append_left _ (List.mem_append_left _ (List.mem_append_left _ (List.mem_of_getElem? (i := 2) rfl))))) (List.mem_cons_of_mem _ (List.mem_append_left _ (List.mem_append_left _ (List.mem_append_left _ (List.mem_of_getElem? (i := 0) rfl))))) (List.mem_cons_of_mem _ (List.mem_append_left _ (List.mem_append_left _ (List.mem_append_left _ (List.mem_of_getElem? (i := 1) rfl))))) rfl 3 (by decide +kernel) ⟨Nat.le_of_ble_eq_true rfl, Nat.le_of_ble_eq_true rfl⟩ rfl (st := []) rfl (Nat.le_of_ble_eq_true rfl) ⟨Nat.le_of_ble_eq_true rfl, Nat.le_of_ble_eq_true rfl⟩ hN0 (hAR N0 (by omega)) (by intro q hq b hb; simp only [List.mem_cons, List.not_mem_nil, or_false] at hq; rcases hq with rfl | rfl | rfl | rfl <;> cases hb <;> exact Or.inl (by assumption)) (by simp) dX9_init_4 ?_
  exact hret _ _ dX9_init_7
