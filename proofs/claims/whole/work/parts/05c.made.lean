set_option maxRecDepth 100000 in
set_option maxHeartbeats 4000000 in
theorem ci_X8_init : ConA yX8_init wsX8_init (rm_a 1 3 408) [] [.ref 1] hs_2 none hs_12 := by
  have hn8 : ∀ w ∈ wsX80, w ∈ wsX8_init := (fun _ hw => (List.mem_cons_of_mem _ (List.mem_append_right _ hw)))
  refine con_vA (cc := cX8_init) (nL := 2) (by decide) rfl (Nat.le_of_ble_eq_true rfl) ?_
  intro C hC hret hAR hini
  replace hini := hini rfl
  change Go [] C 0 0 0 [(0, .ref 1)] [] hs_2
  refine go_aload_n hC dX8_init_0 rfl 0 rfl ?_
  refine go_obj hC (List.mem_cons_of_mem _ (List.mem_append_left _ (List.mem_of_getElem? (i := 0) rfl))) (List.mem_cons_of_mem _ (List.mem_append_left _ (List.mem_of_getElem? (i := 1) rfl))) (List.mem_cons_of_mem _ (List.mem_append_left _ (List.mem_of_getElem? (i := 2) rfl))) ⟨Nat.le_of_ble_eq_true rfl, Nat.le_of_ble_eq_true rfl⟩ dX8_init_1 ?_
  refine go_aload_n hC dX8_init_4 rfl 0 rfl ?_
  refine go_iconst hC dX8_init_5 k1_4 ?_
  refine go_newa hC (N2 := 4) (Or.inl ⟨rfl, rfl⟩) (List.mem_cons_of_mem _ (List.mem_append_left _ (List.mem_of_getElem? (i := 3) rfl))) (by decide) (by decide) (Nat.le_of_ble_eq_true rfl) (Nat.le_of_ble_eq_true rfl) (Nat.le_of_ble_eq_true rfl) (by rw [hd_2]; rfl) wh_2 (Nat.le_of_ble_eq_true rfl) (hAR 2 (by rw [hd_2]; exact Nat.le_of_ble_eq_true rfl)) (rl_ok (n := 2) rfl (Nat.le_refl _)) (rs_ok (n := 2) rfl (Nat.le_refl _)) dX8_init_6 ?_
  refine go_toph (h1 := hs_3) rfl ?_
  refine go_putqF hC (j := 0) (idx := 9) (nm := "lanes") (ds := "[I") tyX8 hini (by rw [hd_3]; rfl) rfl rfl hn8 tyX8_ok nmX8 (Nat.le_of_ble_eq_true rfl) rfl rfl (List.mem_cons_of_mem _ (List.mem_append_left _ (List.mem_of_getElem? (i := 4) rfl))) rfl rfl (tyX8_ok _ (Nat.le_of_ble_eq_true rfl)) (fun _ => ⟨rfl, rfl⟩) dX8_init_8 ?_
  refine go_toph (h1 := hs_4) rfl ?_
  refine go_aload_n hC dX8_init_11 rfl 0 rfl ?_
  refine go_iconst hC dX8_init_12 k1_4 ?_
  refine go_newa hC (N2 := 4) (Or.inl ⟨rfl, rfl⟩) (List.mem_cons_of_mem _ (List.mem_append_left _ (List.mem_of_getElem? (i := 3) rfl))) (by decide) (by decide) (Nat.le_of_ble_eq_true rfl) (Nat.le_of_ble_eq_true rfl) (Nat.le_of_ble_eq_true rfl) (by rw [hd_4]; rfl) wh_4 (Nat.le_of_ble_eq_true rfl) (hAR 3 (by rw [hd_2]; exact Nat.le_of_ble_eq_true rfl)) (rl_ok (n := 3) rfl (Nat.le_refl _)) (rs_ok (n := 3) rfl (Nat.le_refl _)) dX8_init_13 ?_
  refine go_toph (h1 := hs_5) rfl ?_
  refine go_putqF hC (j := 1) (idx := 15) (nm := "lengths") (ds := "[I") tyX8 hini (by rw [hd_5]; rfl) rfl rfl hn8 tyX8_ok nmX8 (Nat.le_of_ble_eq_true rfl) rfl rfl (List.mem_cons_of_mem _ (List.mem_append_left _ (List.mem_of_getElem? (i := 5) rfl))) rfl rfl (tyX8_ok _ (Nat.le_of_ble_eq_true rfl)) (fun _ => ⟨rfl, rfl⟩) dX8_init_15 ?_
  refine go_toph (h1 := hs_6) rfl ?_
  refine go_aload_n hC dX8_init_18 rfl 0 rfl ?_
  refine go_sipush hC dX8_init_19 k16_400 ?_
  refine go_newa hC (N2 := 400) (Or.inl ⟨rfl, rfl⟩) (List.mem_cons_of_mem _ (List.mem_append_left _ (List.mem_of_getElem? (i := 3) rfl))) (by decide) (by decide) (Nat.le_of_ble_eq_true rfl) (Nat.le_of_ble_eq_true rfl) (Nat.le_of_ble_eq_true rfl) (by rw [hd_6]; rfl) wh_6 (Nat.le_of_ble_eq_true rfl) (hAR 4 (by rw [hd_2]; exact Nat.le_of_ble_eq_true rfl)) (rl_ok (n := 4) rfl (Nat.le_refl _)) (rs_ok (n := 4) rfl (Nat.le_refl _)) dX8_init_22 ?_
  refine go_toph (h1 := hs_7) rfl ?_
  refine go_putqF hC (j := 2) (idx := 18) (nm := "cells") (ds := "[I") tyX8 hini (by rw [hd_7]; rfl) rfl rfl hn8 tyX8_ok nmX8 (Nat.le_of_ble_eq_true rfl) rfl rfl (List.mem_cons_of_mem _ (List.mem_append_left _ (List.mem_of_getElem? (i := 6) rfl))) rfl rfl (tyX8_ok _ (Nat.le_of_ble_eq_true rfl)) (fun _ => ⟨rfl, rfl⟩) dX8_init_24 ?_
  refine go_toph (h1 := hs_8) rfl ?_
  refine go_iconst hC dX8_init_27 k1_0 ?_
  refine go_istore_n hC dX8_init_28 rfl (Nat.le_of_ble_eq_true rfl) rfl ?_
  refine go_iload_n hC dX8_init_29 rfl 0 rfl ?_
  refine go_iconst hC dX8_init_30 k1_4 ?_
  refine go_icmp_ge hC dX8_init_31 (tgt := 47) (by decide) (fun c9 => absurd c9 (by decide)) (fun c9 => ?_)
  refine go_aload_n hC dX8_init_34 rfl 1 rfl ?_
  refine go_geto hC (j := 0) (idx := 9) (nm := "lanes") (ds := "[I") (by rw [hd_8]; rfl) rfl rfl hn8 (Nat.le_of_ble_eq_true rfl) rfl rfl (List.mem_cons_of_mem _ (List.mem_append_left _ (List.mem_of_getElem? (i := 4) rfl))) (Or.inl rfl) (by decide +kernel) dX8_init_35 ?_
  refine go_iload_n hC dX8_init_38 rfl 0 rfl ?_
  refine go_iconst hC dX8_init_39 k1_m1 ?_
  refine go_iast hC (n := 4) (by rw [hd_8]; rfl) (by unfold vp_in; decide) dX8_init_40 ?_
  refine go_toph (h1 := hs_9) rfl ?_
  refine go_iinc hC (v := 1) dX8_init_41 0 rfl k1_1 (by decide) (Nat.le_of_ble_eq_true rfl) rfl ?_
  refine go_goto hC dX8_init_44 (tgt := 29) (by decide) ?_
  refine go_iload_n hC dX8_init_29 rfl 0 rfl ?_
  refine go_iconst hC dX8_init_30 k1_4 ?_
  refine go_icmp_ge hC dX8_init_31 (tgt := 47) (by decide) (fun c9 => absurd c9 (by decide)) (fun c9 => ?_)
  refine go_aload_n hC dX8_init_34 rfl 1 rfl ?_
  refine go_geto hC (j := 0) (idx := 9) (nm := "lanes") (ds := "[I") (by rw [hd_9]; rfl) rfl rfl hn8 (Nat.le_of_ble_eq_true rfl) rfl rfl (List.mem_cons_of_mem _ (List.mem_append_left _ (List.mem_of_getElem? (i := 4) rfl))) (Or.inl rfl) (by decide +kernel) dX8_init_35 ?_
  refine go_iload_n hC dX8_init_38 rfl 0 rfl ?_
  refine go_iconst hC dX8_init_39 k1_m1 ?_
  refine go_iast hC (n := 4) (by rw [hd_9]; rfl) (by unfold vp_in; decide) dX8_init_40 ?_
  refine go_toph (h1 := hs_10) rfl ?_
  refine go_iinc hC (v := 2) dX8_init_41 0 rfl k1_1 (by decide) (Nat.le_of_ble_eq_true rfl) rfl ?_
  refine go_goto hC dX8_init_44 (tgt := 29) (by decide) ?_
  refine go_iload_n hC dX8_init_29 rfl 0 rfl ?_
  refine go_iconst hC dX8_init_30 k1_4 ?_
  refine go_icmp_ge hC dX8_init_31 (tgt := 47) (by decide) (fun c9 => absurd c9 (by decide)) (fun c9 => ?_)
  refine go_aload_n hC dX8_init_34 rfl 1 rfl ?_
  refine go_geto hC (j := 0) (idx := 9) (nm := "lanes") (ds := "[I") (by rw [hd_10]; rfl) rfl rfl hn8 (Nat.le_of_ble_eq_true rfl) rfl rfl (List.mem_cons_of_mem _ (List.mem_append_left _ (List.mem_of_getElem? (i := 4) rfl))) (Or.inl rfl) (by decide +kernel) dX8_init_35 ?_
  refine go_iload_n hC dX8_init_38 rfl 0 rfl ?_
  refine go_iconst hC dX8_init_39 k1_m1 ?_
  refine go_iast hC (n := 4) (by rw [hd_10]; rfl) (by unfold vp_in; decide) dX8_init_40 ?_
  refine go_toph (h1 := hs_11) rfl ?_
  refine go_iinc hC (v := 3) dX8_init_41 0 rfl k1_1 (by decide) (Nat.le_of_ble_eq_true rfl) rfl ?_
  refine go_goto hC dX8_init_44 (tgt := 29) (by decide) ?_
  refine go_iload_n hC dX8_init_29 rfl 0 rfl ?_
  refine go_iconst hC dX8_init_30 k1_4 ?_
  refine go_icmp_ge hC dX8_init_31 (tgt := 47) (by decide) (fun c9 => absurd c9 (by decide)) (fun c9 => ?_)
  refine go_aload_n hC dX8_init_34 rfl 1 rfl ?_
  refine go_geto hC (j := 0) (idx := 9) (nm := "lanes") (ds := "[I") (by rw [hd_11]; rfl) rfl rfl hn8 (Nat.le_of_ble_eq_true rfl) rfl rfl (List.mem_cons_of_mem _ (List.mem_append_left _ (List.mem_of_getElem? (i := 4) rfl))) (Or.inl rfl) (by decide +kernel) dX8_init_35 ?_
  refine go_iload_n hC dX8_init_38 rfl 0 rfl ?_
  refine go_iconst hC dX8_init_39 k1_m1 ?_
  refine go_iast hC (n := 4) (by rw [hd_11]; rfl) (by unfold vp_in; decide) dX8_init_40 ?_
  refine go_toph (h1 := hs_12) rfl ?_
  refine go_iinc hC (v := 4) dX8_init_41 0 rfl k1_1 (by decide) (Nat.le_of_ble_eq_true rfl) rfl ?_
  refine go_goto hC dX8_init_44 (tgt := 29) (by decide) ?_
  refine go_iload_n hC dX8_init_29 rfl 0 rfl ?_
  refine go_iconst hC dX8_init_30 k1_4 ?_
  refine go_icmp_ge hC dX8_init_31 (tgt := 47) (by decide) (fun c9 => ?_) (fun c9 => absurd c9 (by decide))
  exact hret _ _ dX8_init_47
set_option maxRecDepth 100000 in
set_option maxHeartbeats 4000000 in
theorem ci_X10_init : ConA yX10_init wsX10_init (rm_a 1 4 56) [] [.ref 5] hs_14 none hs_22 := by
  have hn10 : ∀ w ∈ wsX100, w ∈ wsX10_init := (fun _ hw => (List.mem_cons_of_mem _ (List.mem_append_right _ hw)))
  refine con_vA (cc := cX10_init) (nL := 1) (by decide) rfl (Nat.le_of_ble_eq_true rfl) ?_
  intro C hC hret hAR hini
  replace hini := hini rfl
  change Go [] C 0 0 0 [(0, .ref 5)] [] hs_14
  refine go_aload_n hC dX10_init_0 rfl 0 rfl ?_
  refine go_obj hC (List.mem_cons_of_mem _ (List.mem_append_left _ (List.mem_of_getElem? (i := 0) rfl))) (List.mem_cons_of_mem _ (List.mem_append_left _ (List.mem_of_getElem? (i := 1) rfl))) (List.mem_cons_of_mem _ (List.mem_append_left _ (List.mem_of_getElem? (i := 2) rfl))) ⟨Nat.le_of_ble_eq_true rfl, Nat.le_of_ble_eq_true rfl⟩ dX10_init_1 ?_
  refine go_aload_n hC dX10_init_4 rfl 0 rfl ?_
  refine go_bipush hC dX10_init_5 k8_14 ?_
  refine go_newa hC (N2 := 14) (Or.inl ⟨rfl, rfl⟩) (List.mem_cons_of_mem _ (List.mem_append_left _ (List.mem_of_getElem? (i := 3) rfl))) (by decide) (by decide) (Nat.le_of_ble_eq_true rfl) (Nat.le_of_ble_eq_true rfl) (Nat.le_of_ble_eq_true rfl) (by rw [hd_14]; rfl) wh_14 (Nat.le_of_ble_eq_true rfl) (hAR 6 (by rw [hd_14]; exact Nat.le_of_ble_eq_true rfl)) (rl_ok (n := 6) rfl (Nat.le_refl _)) (rs_ok (n := 6) rfl (Nat.le_refl _)) dX10_init_7 ?_
  refine go_toph (h1 := hs_15) rfl ?_
  refine go_putqF hC (j := 0) (idx := 9) (nm := "from") (ds := "[I") tyX10 hini (by rw [hd_15]; rfl) rfl rfl hn10 tyX10_ok nmX10 (Nat.le_of_ble_eq_true rfl) rfl rfl (List.mem_cons_of_mem _ (List.mem_append_left _ (List.mem_of_getElem? (i := 4) rfl))) rfl rfl (tyX10_ok _ (Nat.le_of_ble_eq_true rfl)) (fun _ => ⟨rfl, rfl⟩) dX10_init_9 ?_
  refine go_toph (h1 := hs_16) rfl ?_
  refine go_aload_n hC dX10_init_12 rfl 0 rfl ?_
  refine go_bipush hC dX10_init_13 k8_14 ?_
  refine go_newa hC (N2 := 14) (Or.inl ⟨rfl, rfl⟩) (List.mem_cons_of_mem _ (List.mem_append_left _ (List.mem_of_getElem? (i := 3) rfl))) (by decide) (by decide) (Nat.le_of_ble_eq_true rfl) (Nat.le_of_ble_eq_true rfl) (Nat.le_of_ble_eq_true rfl) (by rw [hd_16]; rfl) wh_16 (Nat.le_of_ble_eq_true rfl) (hAR 7 (by rw [hd_14]; exact Nat.le_of_ble_eq_true rfl)) (rl_ok (n := 7) rfl (Nat.le_refl _)) (rs_ok (n := 7) rfl (Nat.le_refl _)) dX10_init_15 ?_
  refine go_toph (h1 := hs_17) rfl ?_
  refine go_putqF hC (j := 1) (idx := 15) (nm := "to") (ds := "[I") tyX10 hini (by rw [hd_17]; rfl) rfl rfl hn10 tyX10_ok nmX10 (Nat.le_of_ble_eq_true rfl) rfl rfl (List.mem_cons_of_mem _ (List.mem_append_left _ (List.mem_of_getElem? (i := 5) rfl))) rfl rfl (tyX10_ok _ (Nat.le_of_ble_eq_true rfl)) (fun _ => ⟨rfl, rfl⟩) dX10_init_17 ?_
  refine go_toph (h1 := hs_18) rfl ?_
  refine go_aload_n hC dX10_init_20 rfl 0 rfl ?_
  refine go_bipush hC dX10_init_21 k8_14 ?_
  refine go_newa hC (N2 := 14) (Or.inl ⟨rfl, rfl⟩) (List.mem_cons_of_mem _ (List.mem_append_left _ (List.mem_of_getElem? (i := 3) rfl))) (by decide) (by decide) (Nat.le_of_ble_eq_true rfl) (Nat.le_of_ble_eq_true rfl) (Nat.le_of_ble_eq_true rfl) (by rw [hd_18]; rfl) wh_18 (Nat.le_of_ble_eq_true rfl) (hAR 8 (by rw [hd_14]; exact Nat.le_of_ble_eq_true rfl)) (rl_ok (n := 8) rfl (Nat.le_refl _)) (rs_ok (n := 8) rfl (Nat.le_refl _)) dX10_init_23 ?_
  refine go_toph (h1 := hs_19) rfl ?_
  refine go_putqF hC (j := 2) (idx := 18) (nm := "yards") (ds := "[I") tyX10 hini (by rw [hd_19]; rfl) rfl rfl hn10 tyX10_ok nmX10 (Nat.le_of_ble_eq_true rfl) rfl rfl (List.mem_cons_of_mem _ (List.mem_append_left _ (List.mem_of_getElem? (i := 6) rfl))) rfl rfl (tyX10_ok _ (Nat.le_of_ble_eq_true rfl)) (fun _ => ⟨rfl, rfl⟩) dX10_init_25 ?_
  refine go_toph (h1 := hs_20) rfl ?_
  refine go_aload_n hC dX10_init_28 rfl 0 rfl ?_
  refine go_bipush hC dX10_init_29 k8_14 ?_
  refine go_newa hC (N2 := 14) (Or.inl ⟨rfl, rfl⟩) (List.mem_cons_of_mem _ (List.mem_append_left _ (List.mem_of_getElem? (i := 3) rfl))) (by decide) (by decide) (Nat.le_of_ble_eq_true rfl) (Nat.le_of_ble_eq_true rfl) (Nat.le_of_ble_eq_true rfl) (by rw [hd_20]; rfl) wh_20 (Nat.le_of_ble_eq_true rfl) (hAR 9 (by rw [hd_14]; exact Nat.le_of_ble_eq_true rfl)) (rl_ok (n := 9) rfl (Nat.le_refl _)) (rs_ok (n := 9) rfl (Nat.le_refl _)) dX10_init_31 ?_
  refine go_toph (h1 := hs_21) rfl ?_
  refine go_putqF hC (j := 3) (idx := 21) (nm := "drilled") (ds := "[I") tyX10 hini (by rw [hd_21]; rfl) rfl rfl hn10 tyX10_ok nmX10 (Nat.le_of_ble_eq_true rfl) rfl rfl (List.mem_cons_of_mem _ (List.mem_append_left _ (List.mem_of_getElem? (i := 7) rfl))) rfl rfl (tyX10_ok _ (Nat.le_of_ble_eq_true rfl)) (fun _ => ⟨rfl, rfl⟩) dX10_init_33 ?_
  refine go_toph (h1 := hs_22) rfl ?_
  exact hret _ _ dX10_init_36
set_option maxRecDepth 100000 in
set_option maxHeartbeats 4000000 in
theorem ci_X3_init : ConA yX3_init wsX3_init (rm_a 1 6 134) [] [.ref 10] hs_24 none hs_36 := by
  have hn3 : ∀ w ∈ wsX30, w ∈ wsX3_init := (fun _ hw => (List.mem_cons_of_mem _ (List.mem_append_right _ hw)))
  refine con_vA (cc := cX3_init) (nL := 1) (by decide) rfl (Nat.le_of_ble_eq_true rfl) ?_
  intro C hC hret hAR hini
  replace hini := hini rfl
  change Go [] C 0 0 0 [(0, .ref 10)] [] hs_24
  refine go_aload_n hC dX3_init_0 rfl 0 rfl ?_
  refine go_obj hC (List.mem_cons_of_mem _ (List.mem_append_left _ (List.mem_of_getElem? (i := 0) rfl))) (List.mem_cons_of_mem _ (List.mem_append_left _ (List.mem_of_getElem? (i := 1) rfl))) (List.mem_cons_of_mem _ (List.mem_append_left _ (List.mem_of_getElem? (i := 2) rfl))) ⟨Nat.le_of_ble_eq_true rfl, Nat.le_of_ble_eq_true rfl⟩ dX3_init_1 ?_
  refine go_aload_n hC dX3_init_4 rfl 0 rfl ?_
  refine go_bipush hC dX3_init_5 k8_14 ?_
  refine go_newa hC (N2 := 14) (Or.inl ⟨rfl, rfl⟩) (List.mem_cons_of_mem _ (List.mem_append_left _ (List.mem_of_getElem? (i := 3) rfl))) (by decide) (by decide) (Nat.le_of_ble_eq_true rfl) (Nat.le_of_ble_eq_true rfl) (Nat.le_of_ble_eq_true rfl) (by rw [hd_24]; rfl) wh_24 (Nat.le_of_ble_eq_true rfl) (hAR 11 (by rw [hd_24]; exact Nat.le_of_ble_eq_true rfl)) (rl_ok (n := 11) rfl (Nat.le_refl _)) (rs_ok (n := 11) rfl (Nat.le_refl _)) dX3_init_7 ?_
  refine go_toph (h1 := hs_25) rfl ?_
  refine go_putqF hC (j := 3) (idx := 9) (nm := "from") (ds := "[I") tyX3 hini (by rw [hd_25]; rfl) rfl rfl hn3 tyX3_ok nmX3 (Nat.le_of_ble_eq_true rfl) rfl rfl (List.mem_cons_of_mem _ (List.mem_append_left _ (List.mem_of_getElem? (i := 4) rfl))) rfl rfl (tyX3_ok _ (Nat.le_of_ble_eq_true rfl)) (fun _ => ⟨rfl, rfl⟩) dX3_init_9 ?_
  refine go_toph (h1 := hs_26) rfl ?_
  refine go_aload_n hC dX3_init_12 rfl 0 rfl ?_
  refine go_bipush hC dX3_init_13 k8_14 ?_
  refine go_newa hC (N2 := 14) (Or.inl ⟨rfl, rfl⟩) (List.mem_cons_of_mem _ (List.mem_append_left _ (List.mem_of_getElem? (i := 3) rfl))) (by decide) (by decide) (Nat.le_of_ble_eq_true rfl) (Nat.le_of_ble_eq_true rfl) (Nat.le_of_ble_eq_true rfl) (by rw [hd_26]; rfl) wh_26 (Nat.le_of_ble_eq_true rfl) (hAR 12 (by rw [hd_24]; exact Nat.le_of_ble_eq_true rfl)) (rl_ok (n := 12) rfl (Nat.le_refl _)) (rs_ok (n := 12) rfl (Nat.le_refl _)) dX3_init_15 ?_
  refine go_toph (h1 := hs_27) rfl ?_
  refine go_putqF hC (j := 4) (idx := 15) (nm := "to") (ds := "[I") tyX3 hini (by rw [hd_27]; rfl) rfl rfl hn3 tyX3_ok nmX3 (Nat.le_of_ble_eq_true rfl) rfl rfl (List.mem_cons_of_mem _ (List.mem_append_left _ (List.mem_of_getElem? (i := 5) rfl))) rfl rfl (tyX3_ok _ (Nat.le_of_ble_eq_true rfl)) (fun _ => ⟨rfl, rfl⟩) dX3_init_17 ?_
  refine go_toph (h1 := hs_28) rfl ?_
  refine go_aload_n hC dX3_init_20 rfl 0 rfl ?_
  refine go_bipush hC dX3_init_21 k8_14 ?_
  refine go_newa hC (N2 := 14) (Or.inl ⟨rfl, rfl⟩) (List.mem_cons_of_mem _ (List.mem_append_left _ (List.mem_of_getElem? (i := 3) rfl))) (by decide) (by decide) (Nat.le_of_ble_eq_true rfl) (Nat.le_of_ble_eq_true rfl) (Nat.le_of_ble_eq_true rfl) (by rw [hd_28]; rfl) wh_28 (Nat.le_of_ble_eq_true rfl) (hAR 13 (by rw [hd_24]; exact Nat.le_of_ble_eq_true rfl)) (rl_ok (n := 13) rfl (Nat.le_refl _)) (rs_ok (n := 13) rfl (Nat.le_refl _)) dX3_init_23 ?_
  refine go_toph (h1 := hs_29) rfl ?_
  refine go_putqF hC (j := 5) (idx := 18) (nm := "yards") (ds := "[I") tyX3 hini (by rw [hd_29]; rfl) rfl rfl hn3 tyX3_ok nmX3 (Nat.le_of_ble_eq_true rfl) rfl rfl (List.mem_cons_of_mem _ (List.mem_append_left _ (List.mem_of_getElem? (i := 6) rfl))) rfl rfl (tyX3_ok _ (Nat.le_of_ble_eq_true rfl)) (fun _ => ⟨rfl, rfl⟩) dX3_init_25 ?_
  refine go_toph (h1 := hs_30) rfl ?_
  refine go_aload_n hC dX3_init_28 rfl 0 rfl ?_
  refine go_bipush hC dX3_init_29 k8_14 ?_
  refine go_newa hC (N2 := 14) (Or.inl ⟨rfl, rfl⟩) (List.mem_cons_of_mem _ (List.mem_append_left _ (List.mem_of_getElem? (i := 3) rfl))) (by decide) (by decide) (Nat.le_of_ble_eq_true rfl) (Nat.le_of_ble_eq_true rfl) (Nat.le_of_ble_eq_true rfl) (by rw [hd_30]; rfl) wh_30 (Nat.le_of_ble_eq_true rfl) (hAR 14 (by rw [hd_24]; exact Nat.le_of_ble_eq_true rfl)) (rl_ok (n := 14) rfl (Nat.le_refl _)) (rs_ok (n := 14) rfl (Nat.le_refl _)) dX3_init_31 ?_
  refine go_toph (h1 := hs_31) rfl ?_
  refine go_putqF hC (j := 6) (idx := 21) (nm := "drilled") (ds := "[I") tyX3 hini (by rw [hd_31]; rfl) rfl rfl hn3 tyX3_ok nmX3 (Nat.le_of_ble_eq_true rfl) rfl rfl (List.mem_cons_of_mem _ (List.mem_append_left _ (List.mem_of_getElem? (i := 7) rfl))) rfl rfl (tyX3_ok _ (Nat.le_of_ble_eq_true rfl)) (fun _ => ⟨rfl, rfl⟩) dX3_init_33 ?_
  refine go_toph (h1 := hs_32) rfl ?_
  refine go_aload_n hC dX3_init_36 rfl 0 rfl ?_
  refine go_bipush hC dX3_init_37 k8_14 ?_
  refine go_newa hC (N2 := 14) (Or.inr (Or.inl ⟨rfl, rfl⟩)) (List.mem_cons_of_mem _ (List.mem_append_left _ (List.mem_of_getElem? (i := 8) rfl))) (by decide) (by decide) (Nat.le_of_ble_eq_true rfl) (Nat.le_of_ble_eq_true rfl) (Nat.le_of_ble_eq_true rfl) (by rw [hd_32]; rfl) wh_32 (Nat.le_of_ble_eq_true rfl) (hAR 15 (by rw [hd_24]; exact Nat.le_of_ble_eq_true rfl)) (rl_ok (n := 15) rfl (Nat.le_refl _)) (rs_ok (n := 15) rfl (Nat.le_refl _)) dX3_init_39 ?_
  refine go_toph (h1 := hs_33) rfl ?_
  refine go_putqF hC (j := 7) (idx := 24) (nm := "closed") (ds := "[Z") tyX3 hini (by rw [hd_33]; rfl) rfl rfl hn3 tyX3_ok nmX3 (Nat.le_of_ble_eq_true rfl) rfl rfl (List.mem_cons_of_mem _ (List.mem_append_left _ (List.mem_of_getElem? (i := 9) rfl))) rfl rfl (tyX3_ok _ (Nat.le_of_ble_eq_true rfl)) (fun _ => ⟨rfl, rfl⟩) dX3_init_41 ?_
  refine go_toph (h1 := hs_34) rfl ?_
  refine go_aload_n hC dX3_init_44 rfl 0 rfl ?_
  refine go_bipush hC dX3_init_45 k8_64 ?_
  refine go_newa hC (N2 := 64) (Or.inl ⟨rfl, rfl⟩) (List.mem_cons_of_mem _ (List.mem_append_left _ (List.mem_of_getElem? (i := 3) rfl))) (by decide) (by decide) (Nat.le_of_ble_eq_true rfl) (Nat.le_of_ble_eq_true rfl) (Nat.le_of_ble_eq_true rfl) (by rw [hd_34]; rfl) wh_34 (Nat.le_of_ble_eq_true rfl) (hAR 16 (by rw [hd_24]; exact Nat.le_of_ble_eq_true rfl)) (rl_ok (n := 16) rfl (Nat.le_refl _)) (rs_ok (n := 16) rfl (Nat.le_refl _)) dX3_init_47 ?_
  refine go_toph (h1 := hs_35) rfl ?_
  refine go_putqF hC (j := 8) (idx := 28) (nm := "apart") (ds := "[I") tyX3 hini (by rw [hd_35]; rfl) rfl rfl hn3 tyX3_ok nmX3 (Nat.le_of_ble_eq_true rfl) rfl rfl (List.mem_cons_of_mem _ (List.mem_append_left _ (List.mem_of_getElem? (i := 10) rfl))) rfl rfl (tyX3_ok _ (Nat.le_of_ble_eq_true rfl)) (fun _ => ⟨rfl, rfl⟩) dX3_init_49 ?_
  refine go_toph (h1 := hs_36) rfl ?_
  exact hret _ _ dX3_init_52
set_option maxRecDepth 100000 in
set_option maxHeartbeats 4000000 in
theorem ci_X6_init : ConA yX6_init wsX6_init (rm_a 1 4 32) [] [.ref 17] hs_38 none hs_46 := by
  have hn6 : ∀ w ∈ wsX60, w ∈ wsX6_init := (fun _ hw => (List.mem_cons_of_mem _ (List.mem_append_right _ hw)))
  refine con_vA (cc := cX6_init) (nL := 1) (by decide) rfl (Nat.le_of_ble_eq_true rfl) ?_
  intro C hC hret hAR hini
  replace hini := hini rfl
  change Go [] C 0 0 0 [(0, .ref 17)] [] hs_38
  refine go_aload_n hC dX6_init_0 rfl 0 rfl ?_
  refine go_obj hC (List.mem_cons_of_mem _ (List.mem_append_left _ (List.mem_of_getElem? (i := 0) rfl))) (List.mem_cons_of_mem _ (List.mem_append_left _ (List.mem_of_getElem? (i := 1) rfl))) (List.mem_cons_of_mem _ (List.mem_append_left _ (List.mem_of_getElem? (i := 2) rfl))) ⟨Nat.le_of_ble_eq_true rfl, Nat.le_of_ble_eq_true rfl⟩ dX6_init_1 ?_
  refine go_aload_n hC dX6_init_4 rfl 0 rfl ?_
  refine go_bipush hC dX6_init_5 k8_8 ?_
  refine go_newa hC (N2 := 8) (Or.inl ⟨rfl, rfl⟩) (List.mem_cons_of_mem _ (List.mem_append_left _ (List.mem_of_getElem? (i := 3) rfl))) (by decide) (by decide) (Nat.le_of_ble_eq_true rfl) (Nat.le_of_ble_eq_true rfl) (Nat.le_of_ble_eq_true rfl) (by rw [hd_38]; rfl) wh_38 (Nat.le_of_ble_eq_true rfl) (hAR 18 (by rw [hd_38]; exact Nat.le_of_ble_eq_true rfl)) (rl_ok (n := 18) rfl (Nat.le_refl _)) (rs_ok (n := 18) rfl (Nat.le_refl _)) dX6_init_7 ?_
  refine go_toph (h1 := hs_39) rfl ?_
  refine go_putqF hC (j := 1) (idx := 9) (nm := "places") (ds := "[I") tyX6 hini (by rw [hd_39]; rfl) rfl rfl hn6 tyX6_ok nmX6 (Nat.le_of_ble_eq_true rfl) rfl rfl (List.mem_cons_of_mem _ (List.mem_append_left _ (List.mem_of_getElem? (i := 4) rfl))) rfl rfl (tyX6_ok _ (Nat.le_of_ble_eq_true rfl)) (fun _ => ⟨rfl, rfl⟩) dX6_init_9 ?_
  refine go_toph (h1 := hs_40) rfl ?_
  refine go_aload_n hC dX6_init_12 rfl 0 rfl ?_
  refine go_bipush hC dX6_init_13 k8_8 ?_
  refine go_newa hC (N2 := 8) (Or.inl ⟨rfl, rfl⟩) (List.mem_cons_of_mem _ (List.mem_append_left _ (List.mem_of_getElem? (i := 3) rfl))) (by decide) (by decide) (Nat.le_of_ble_eq_true rfl) (Nat.le_of_ble_eq_true rfl) (Nat.le_of_ble_eq_true rfl) (by rw [hd_40]; rfl) wh_40 (Nat.le_of_ble_eq_true rfl) (hAR 19 (by rw [hd_38]; exact Nat.le_of_ble_eq_true rfl)) (rl_ok (n := 19) rfl (Nat.le_refl _)) (rs_ok (n := 19) rfl (Nat.le_refl _)) dX6_init_15 ?_
  refine go_toph (h1 := hs_41) rfl ?_
  refine go_putqF hC (j := 2) (idx := 15) (nm := "loads") (ds := "[I") tyX6 hini (by rw [hd_41]; rfl) rfl rfl hn6 tyX6_ok nmX6 (Nat.le_of_ble_eq_true rfl) rfl rfl (List.mem_cons_of_mem _ (List.mem_append_left _ (List.mem_of_getElem? (i := 5) rfl))) rfl rfl (tyX6_ok _ (Nat.le_of_ble_eq_true rfl)) (fun _ => ⟨rfl, rfl⟩) dX6_init_17 ?_
  refine go_toph (h1 := hs_42) rfl ?_
  refine go_aload_n hC dX6_init_20 rfl 0 rfl ?_
  refine go_bipush hC dX6_init_21 k8_8 ?_
  refine go_newa hC (N2 := 8) (Or.inl ⟨rfl, rfl⟩) (List.mem_cons_of_mem _ (List.mem_append_left _ (List.mem_of_getElem? (i := 3) rfl))) (by decide) (by decide) (Nat.le_of_ble_eq_true rfl) (Nat.le_of_ble_eq_true rfl) (Nat.le_of_ble_eq_true rfl) (by rw [hd_42]; rfl) wh_42 (Nat.le_of_ble_eq_true rfl) (hAR 20 (by rw [hd_38]; exact Nat.le_of_ble_eq_true rfl)) (rl_ok (n := 20) rfl (Nat.le_refl _)) (rs_ok (n := 20) rfl (Nat.le_refl _)) dX6_init_23 ?_
  refine go_toph (h1 := hs_43) rfl ?_
  refine go_putqF hC (j := 3) (idx := 18) (nm := "rooms") (ds := "[I") tyX6 hini (by rw [hd_43]; rfl) rfl rfl hn6 tyX6_ok nmX6 (Nat.le_of_ble_eq_true rfl) rfl rfl (List.mem_cons_of_mem _ (List.mem_append_left _ (List.mem_of_getElem? (i := 6) rfl))) rfl rfl (tyX6_ok _ (Nat.le_of_ble_eq_true rfl)) (fun _ => ⟨rfl, rfl⟩) dX6_init_25 ?_
  refine go_toph (h1 := hs_44) rfl ?_
  refine go_aload_n hC dX6_init_28 rfl 0 rfl ?_
  refine go_bipush hC dX6_init_29 k8_8 ?_
  refine go_newa hC (N2 := 8) (Or.inl ⟨rfl, rfl⟩) (List.mem_cons_of_mem _ (List.mem_append_left _ (List.mem_of_getElem? (i := 3) rfl))) (by decide) (by decide) (Nat.le_of_ble_eq_true rfl) (Nat.le_of_ble_eq_true rfl) (Nat.le_of_ble_eq_true rfl) (by rw [hd_44]; rfl) wh_44 (Nat.le_of_ble_eq_true rfl) (hAR 21 (by rw [hd_38]; exact Nat.le_of_ble_eq_true rfl)) (rl_ok (n := 21) rfl (Nat.le_refl _)) (rs_ok (n := 21) rfl (Nat.le_refl _)) dX6_init_31 ?_
  refine go_toph (h1 := hs_45) rfl ?_
  refine go_putqF hC (j := 4) (idx := 21) (nm := "owners") (ds := "[I") tyX6 hini (by rw [hd_45]; rfl) rfl rfl hn6 tyX6_ok nmX6 (Nat.le_of_ble_eq_true rfl) rfl rfl (List.mem_cons_of_mem _ (List.mem_append_left _ (List.mem_of_getElem? (i := 7) rfl))) rfl rfl (tyX6_ok _ (Nat.le_of_ble_eq_true rfl)) (fun _ => ⟨rfl, rfl⟩) dX6_init_33 ?_
  refine go_toph (h1 := hs_46) rfl ?_
  exact hret _ _ dX6_init_36
set_option maxRecDepth 100000 in
set_option maxHeartbeats 4000000 in
theorem ci_X0_init : ConA yX0_init wsX0_init (rm_a 1 3 2120) [] [.ref 23] hs_50 none hs_56 := by
  have hn0 : ∀ w ∈ wsX00, w ∈ wsX0_init := (fun _ hw => (List.mem_cons_of_mem _ (List.mem_append_right _ hw)))
  refine con_vA (cc := cX0_init) (nL := 1) (by decide) rfl (Nat.le_of_ble_eq_true rfl) ?_
  intro C hC hret hAR hini
  replace hini := hini rfl
  change Go [] C 0 0 0 [(0, .ref 23)] [] hs_50
  refine go_aload_n hC dX0_init_0 rfl 0 rfl ?_
  refine go_obj hC (List.mem_cons_of_mem _ (List.mem_append_left _ (List.mem_of_getElem? (i := 0) rfl))) (List.mem_cons_of_mem _ (List.mem_append_left _ (List.mem_of_getElem? (i := 1) rfl))) (List.mem_cons_of_mem _ (List.mem_append_left _ (List.mem_of_getElem? (i := 2) rfl))) ⟨Nat.le_of_ble_eq_true rfl, Nat.le_of_ble_eq_true rfl⟩ dX0_init_1 ?_
  refine go_aload_n hC dX0_init_4 rfl 0 rfl ?_
  refine go_bipush hC dX0_init_5 k8_64 ?_
  refine go_newa hC (N2 := 64) (Or.inl ⟨rfl, rfl⟩) (List.mem_cons_of_mem _ (List.mem_append_left _ (List.mem_of_getElem? (i := 3) rfl))) (by decide) (by decide) (Nat.le_of_ble_eq_true rfl) (Nat.le_of_ble_eq_true rfl) (Nat.le_of_ble_eq_true rfl) (by rw [hd_50]; rfl) wh_50 (Nat.le_of_ble_eq_true rfl) (hAR 24 (by rw [hd_50]; exact Nat.le_of_ble_eq_true rfl)) (rl_ok (n := 24) rfl (Nat.le_refl _)) (rs_ok (n := 24) rfl (Nat.le_refl _)) dX0_init_7 ?_
  refine go_toph (h1 := hs_51) rfl ?_
  refine go_putqF hC (j := 0) (idx := 9) (nm := "gaps") (ds := "[I") tyX0 hini (by rw [hd_51]; rfl) rfl rfl hn0 tyX0_ok nmX0 (Nat.le_of_ble_eq_true rfl) rfl rfl (List.mem_cons_of_mem _ (List.mem_append_left _ (List.mem_of_getElem? (i := 4) rfl))) rfl rfl (tyX0_ok _ (Nat.le_of_ble_eq_true rfl)) (fun _ => ⟨rfl, rfl⟩) dX0_init_9 ?_
  refine go_toph (h1 := hs_52) rfl ?_
  refine go_aload_n hC dX0_init_12 rfl 0 rfl ?_
  refine go_bipush hC dX0_init_13 k8_8 ?_
  refine go_newa hC (N2 := 8) (Or.inl ⟨rfl, rfl⟩) (List.mem_cons_of_mem _ (List.mem_append_left _ (List.mem_of_getElem? (i := 3) rfl))) (by decide) (by decide) (Nat.le_of_ble_eq_true rfl) (Nat.le_of_ble_eq_true rfl) (Nat.le_of_ble_eq_true rfl) (by rw [hd_52]; rfl) wh_52 (Nat.le_of_ble_eq_true rfl) (hAR 25 (by rw [hd_50]; exact Nat.le_of_ble_eq_true rfl)) (rl_ok (n := 25) rfl (Nat.le_refl _)) (rs_ok (n := 25) rfl (Nat.le_refl _)) dX0_init_15 ?_
  refine go_toph (h1 := hs_53) rfl ?_
  refine go_putqF hC (j := 1) (idx := 15) (nm := "starts") (ds := "[I") tyX0 hini (by rw [hd_53]; rfl) rfl rfl hn0 tyX0_ok nmX0 (Nat.le_of_ble_eq_true rfl) rfl rfl (List.mem_cons_of_mem _ (List.mem_append_left _ (List.mem_of_getElem? (i := 5) rfl))) rfl rfl (tyX0_ok _ (Nat.le_of_ble_eq_true rfl)) (fun _ => ⟨rfl, rfl⟩) dX0_init_17 ?_
  refine go_toph (h1 := hs_54) rfl ?_
  refine go_aload_n hC dX0_init_20 rfl 0 rfl ?_
  refine go_sipush hC dX0_init_21 k16_2048 ?_
  refine go_newa hC (N2 := 2048) (Or.inl ⟨rfl, rfl⟩) (List.mem_cons_of_mem _ (List.mem_append_left _ (List.mem_of_getElem? (i := 3) rfl))) (by decide) (by decide) (Nat.le_of_ble_eq_true rfl) (Nat.le_of_ble_eq_true rfl) (Nat.le_of_ble_eq_true rfl) (by rw [hd_54]; rfl) wh_54 (Nat.le_of_ble_eq_true rfl) (hAR 26 (by rw [hd_50]; exact Nat.le_of_ble_eq_true rfl)) (rl_ok (n := 26) rfl (Nat.le_refl _)) (rs_ok (n := 26) rfl (Nat.le_refl _)) dX0_init_24 ?_
  refine go_toph (h1 := hs_55) rfl ?_
  refine go_putqF hC (j := 2) (idx := 18) (nm := "rests") (ds := "[I") tyX0 hini (by rw [hd_55]; rfl) rfl rfl hn0 tyX0_ok nmX0 (Nat.le_of_ble_eq_true rfl) rfl rfl (List.mem_cons_of_mem _ (List.mem_append_left _ (List.mem_of_getElem? (i := 6) rfl))) rfl rfl (tyX0_ok _ (Nat.le_of_ble_eq_true rfl)) (fun _ => ⟨rfl, rfl⟩) dX0_init_26 ?_
  refine go_toph (h1 := hs_56) rfl ?_
  exact hret _ _ dX0_init_29
set_option maxRecDepth 100000 in
set_option maxHeartbeats 4000000 in
theorem ci_X5_init : ConA yX5_init wsX5_init (rm_a 1 6 284) [] [.ref 27] hs_58 none hs_70 := by
  have hn5 : ∀ w ∈ wsX50, w ∈ wsX5_init := (fun _ hw => (List.mem_cons_of_mem _ (List.mem_append_right _ hw)))
  refine con_vA (cc := cX5_init) (nL := 1) (by decide) rfl (Nat.le_of_ble_eq_true rfl) ?_
  intro C hC hret hAR hini
  replace hini := hini rfl
  change Go [] C 0 0 0 [(0, .ref 27)] [] hs_58
  refine go_aload_n hC dX5_init_0 rfl 0 rfl ?_
  refine go_obj hC (List.mem_cons_of_mem _ (List.mem_append_left _ (List.mem_of_getElem? (i := 0) rfl))) (List.mem_cons_of_mem _ (List.mem_append_left _ (List.mem_of_getElem? (i := 1) rfl))) (List.mem_cons_of_mem _ (List.mem_append_left _ (List.mem_of_getElem? (i := 2) rfl))) ⟨Nat.le_of_ble_eq_true rfl, Nat.le_of_ble_eq_true rfl⟩ dX5_init_1 ?_
  refine go_aload_n hC dX5_init_4 rfl 0 rfl ?_
  refine go_sipush hC dX5_init_5 k16_256 ?_
  refine go_newa hC (N2 := 256) (Or.inl ⟨rfl, rfl⟩) (List.mem_cons_of_mem _ (List.mem_append_left _ (List.mem_of_getElem? (i := 3) rfl))) (by decide) (by decide) (Nat.le_of_ble_eq_true rfl) (Nat.le_of_ble_eq_true rfl) (Nat.le_of_ble_eq_true rfl) (by rw [hd_58]; rfl) wh_58 (Nat.le_of_ble_eq_true rfl) (hAR 28 (by rw [hd_58]; exact Nat.le_of_ble_eq_true rfl)) (rl_ok (n := 28) rfl (Nat.le_refl _)) (rs_ok (n := 28) rfl (Nat.le_refl _)) dX5_init_8 ?_
  refine go_toph (h1 := hs_59) rfl ?_
  refine go_putqF hC (j := 0) (idx := 9) (nm := "yardsOfSets") (ds := "[I") tyX5 hini (by rw [hd_59]; rfl) rfl rfl hn5 tyX5_ok nmX5 (Nat.le_of_ble_eq_true rfl) rfl rfl (List.mem_cons_of_mem _ (List.mem_append_left _ (List.mem_of_getElem? (i := 4) rfl))) rfl rfl (tyX5_ok _ (Nat.le_of_ble_eq_true rfl)) (fun _ => ⟨rfl, rfl⟩) dX5_init_10 ?_
  refine go_toph (h1 := hs_60) rfl ?_
  refine go_aload_n hC dX5_init_13 rfl 0 rfl ?_
  refine go_bipush hC dX5_init_14 k8_8 ?_
  refine go_newa hC (N2 := 8) (Or.inl ⟨rfl, rfl⟩) (List.mem_cons_of_mem _ (List.mem_append_left _ (List.mem_of_getElem? (i := 3) rfl))) (by decide) (by decide) (Nat.le_of_ble_eq_true rfl) (Nat.le_of_ble_eq_true rfl) (Nat.le_of_ble_eq_true rfl) (by rw [hd_60]; rfl) wh_60 (Nat.le_of_ble_eq_true rfl) (hAR 29 (by rw [hd_58]; exact Nat.le_of_ble_eq_true rfl)) (rl_ok (n := 29) rfl (Nat.le_refl _)) (rs_ok (n := 29) rfl (Nat.le_refl _)) dX5_init_16 ?_
  refine go_toph (h1 := hs_61) rfl ?_
  refine go_putqF hC (j := 1) (idx := 15) (nm := "firstRow") (ds := "[I") tyX5 hini (by rw [hd_61]; rfl) rfl rfl hn5 tyX5_ok nmX5 (Nat.le_of_ble_eq_true rfl) rfl rfl (List.mem_cons_of_mem _ (List.mem_append_left _ (List.mem_of_getElem? (i := 5) rfl))) rfl rfl (tyX5_ok _ (Nat.le_of_ble_eq_true rfl)) (fun _ => ⟨rfl, rfl⟩) dX5_init_18 ?_
  refine go_toph (h1 := hs_62) rfl ?_
  refine go_aload_n hC dX5_init_21 rfl 0 rfl ?_
  refine go_bipush hC dX5_init_22 k8_8 ?_
  refine go_newa hC (N2 := 8) (Or.inl ⟨rfl, rfl⟩) (List.mem_cons_of_mem _ (List.mem_append_left _ (List.mem_of_getElem? (i := 3) rfl))) (by decide) (by decide) (Nat.le_of_ble_eq_true rfl) (Nat.le_of_ble_eq_true rfl) (Nat.le_of_ble_eq_true rfl) (by rw [hd_62]; rfl) wh_62 (Nat.le_of_ble_eq_true rfl) (hAR 30 (by rw [hd_58]; exact Nat.le_of_ble_eq_true rfl)) (rl_ok (n := 30) rfl (Nat.le_refl _)) (rs_ok (n := 30) rfl (Nat.le_refl _)) dX5_init_24 ?_
  refine go_toph (h1 := hs_63) rfl ?_
  refine go_putqF hC (j := 2) (idx := 18) (nm := "row") (ds := "[I") tyX5 hini (by rw [hd_63]; rfl) rfl rfl hn5 tyX5_ok nmX5 (Nat.le_of_ble_eq_true rfl) rfl rfl (List.mem_cons_of_mem _ (List.mem_append_left _ (List.mem_of_getElem? (i := 6) rfl))) rfl rfl (tyX5_ok _ (Nat.le_of_ble_eq_true rfl)) (fun _ => ⟨rfl, rfl⟩) dX5_init_26 ?_
  refine go_toph (h1 := hs_64) rfl ?_
  refine go_aload_n hC dX5_init_29 rfl 0 rfl ?_
  refine go_iconst hC dX5_init_30 k1_3 ?_
  refine go_newa hC (N2 := 3) (Or.inl ⟨rfl, rfl⟩) (List.mem_cons_of_mem _ (List.mem_append_left _ (List.mem_of_getElem? (i := 3) rfl))) (by decide) (by decide) (Nat.le_of_ble_eq_true rfl) (Nat.le_of_ble_eq_true rfl) (Nat.le_of_ble_eq_true rfl) (by rw [hd_64]; rfl) wh_64 (Nat.le_of_ble_eq_true rfl) (hAR 31 (by rw [hd_58]; exact Nat.le_of_ble_eq_true rfl)) (rl_ok (n := 31) rfl (Nat.le_refl _)) (rs_ok (n := 31) rfl (Nat.le_refl _)) dX5_init_31 ?_
  refine go_toph (h1 := hs_65) rfl ?_
  refine go_putqF hC (j := 3) (idx := 21) (nm := "groups") (ds := "[I") tyX5 hini (by rw [hd_65]; rfl) rfl rfl hn5 tyX5_ok nmX5 (Nat.le_of_ble_eq_true rfl) rfl rfl (List.mem_cons_of_mem _ (List.mem_append_left _ (List.mem_of_getElem? (i := 7) rfl))) rfl rfl (tyX5_ok _ (Nat.le_of_ble_eq_true rfl)) (fun _ => ⟨rfl, rfl⟩) dX5_init_33 ?_
  refine go_toph (h1 := hs_66) rfl ?_
  refine go_aload_n hC dX5_init_36 rfl 0 rfl ?_
  refine go_iconst hC dX5_init_37 k1_3 ?_
  refine go_newa hC (N2 := 3) (Or.inl ⟨rfl, rfl⟩) (List.mem_cons_of_mem _ (List.mem_append_left _ (List.mem_of_getElem? (i := 3) rfl))) (by decide) (by decide) (Nat.le_of_ble_eq_true rfl) (Nat.le_of_ble_eq_true rfl) (Nat.le_of_ble_eq_true rfl) (by rw [hd_66]; rfl) wh_66 (Nat.le_of_ble_eq_true rfl) (hAR 32 (by rw [hd_58]; exact Nat.le_of_ble_eq_true rfl)) (rl_ok (n := 32) rfl (Nat.le_refl _)) (rs_ok (n := 32) rfl (Nat.le_refl _)) dX5_init_38 ?_
  refine go_toph (h1 := hs_67) rfl ?_
  refine go_putqF hC (j := 4) (idx := 24) (nm := "borne") (ds := "[I") tyX5 hini (by rw [hd_67]; rfl) rfl rfl hn5 tyX5_ok nmX5 (Nat.le_of_ble_eq_true rfl) rfl rfl (List.mem_cons_of_mem _ (List.mem_append_left _ (List.mem_of_getElem? (i := 8) rfl))) rfl rfl (tyX5_ok _ (Nat.le_of_ble_eq_true rfl)) (fun _ => ⟨rfl, rfl⟩) dX5_init_40 ?_
  refine go_toph (h1 := hs_68) rfl ?_
  refine go_aload_n hC dX5_init_43 rfl 0 rfl ?_
  refine go_bipush hC dX5_init_44 k8_6 ?_
  refine go_newa hC (N2 := 6) (Or.inl ⟨rfl, rfl⟩) (List.mem_cons_of_mem _ (List.mem_append_left _ (List.mem_of_getElem? (i := 3) rfl))) (by decide) (by decide) (Nat.le_of_ble_eq_true rfl) (Nat.le_of_ble_eq_true rfl) (Nat.le_of_ble_eq_true rfl) (by rw [hd_68]; rfl) wh_68 (Nat.le_of_ble_eq_true rfl) (hAR 33 (by rw [hd_58]; exact Nat.le_of_ble_eq_true rfl)) (rl_ok (n := 33) rfl (Nat.le_refl _)) (rs_ok (n := 33) rfl (Nat.le_refl _)) dX5_init_46 ?_
  refine go_toph (h1 := hs_69) rfl ?_
  refine go_putqF hC (j := 5) (idx := 27) (nm := "rooms") (ds := "[I") tyX5 hini (by rw [hd_69]; rfl) rfl rfl hn5 tyX5_ok nmX5 (Nat.le_of_ble_eq_true rfl) rfl rfl (List.mem_cons_of_mem _ (List.mem_append_left _ (List.mem_of_getElem? (i := 9) rfl))) rfl rfl (tyX5_ok _ (Nat.le_of_ble_eq_true rfl)) (fun _ => ⟨rfl, rfl⟩) dX5_init_48 ?_
  refine go_toph (h1 := hs_70) rfl ?_
  exact hret _ _ dX5_init_51
set_option maxRecDepth 100000 in
set_option maxHeartbeats 4000000 in
theorem ci_X2_init : ConA yX2_init wsX2_init (rm_a 1 2 8) [] [.ref 34] hs_72 none hs_76 := by
  have hn2 : ∀ w ∈ wsX20, w ∈ wsX2_init := (fun _ hw => (List.mem_cons_of_mem _ (List.mem_append_right _ hw)))
  refine con_vA (cc := cX2_init) (nL := 1) (by decide) rfl (Nat.le_of_ble_eq_true rfl) ?_
  intro C hC hret hAR hini
  replace hini := hini rfl
  change Go [] C 0 0 0 [(0, .ref 34)] [] hs_72
  refine go_aload_n hC dX2_init_0 rfl 0 rfl ?_
  refine go_obj hC (List.mem_cons_of_mem _ (List.mem_append_left _ (List.mem_of_getElem? (i := 0) rfl))) (List.mem_cons_of_mem _ (List.mem_append_left _ (List.mem_of_getElem? (i := 1) rfl))) (List.mem_cons_of_mem _ (List.mem_append_left _ (List.mem_of_getElem? (i := 2) rfl))) ⟨Nat.le_of_ble_eq_true rfl, Nat.le_of_ble_eq_true rfl⟩ dX2_init_1 ?_
  refine go_aload_n hC dX2_init_4 rfl 0 rfl ?_
  refine go_iconst hC dX2_init_5 k1_4 ?_
  refine go_newa hC (N2 := 4) (Or.inl ⟨rfl, rfl⟩) (List.mem_cons_of_mem _ (List.mem_append_left _ (List.mem_of_getElem? (i := 3) rfl))) (by decide) (by decide) (Nat.le_of_ble_eq_true rfl) (Nat.le_of_ble_eq_true rfl) (Nat.le_of_ble_eq_true rfl) (by rw [hd_72]; rfl) wh_72 (Nat.le_of_ble_eq_true rfl) (hAR 35 (by rw [hd_72]; exact Nat.le_of_ble_eq_true rfl)) (rl_ok (n := 35) rfl (Nat.le_refl _)) (rs_ok (n := 35) rfl (Nat.le_refl _)) dX2_init_6 ?_
  refine go_toph (h1 := hs_73) rfl ?_
  refine go_putqF hC (j := 0) (idx := 9) (nm := "firstRow") (ds := "[I") tyX2 hini (by rw [hd_73]; rfl) rfl rfl hn2 tyX2_ok nmX2 (Nat.le_of_ble_eq_true rfl) rfl rfl (List.mem_cons_of_mem _ (List.mem_append_left _ (List.mem_of_getElem? (i := 4) rfl))) rfl rfl (tyX2_ok _ (Nat.le_of_ble_eq_true rfl)) (fun _ => ⟨rfl, rfl⟩) dX2_init_8 ?_
  refine go_toph (h1 := hs_74) rfl ?_
  refine go_aload_n hC dX2_init_11 rfl 0 rfl ?_
  refine go_iconst hC dX2_init_12 k1_4 ?_
  refine go_newa hC (N2 := 4) (Or.inl ⟨rfl, rfl⟩) (List.mem_cons_of_mem _ (List.mem_append_left _ (List.mem_of_getElem? (i := 3) rfl))) (by decide) (by decide) (Nat.le_of_ble_eq_true rfl) (Nat.le_of_ble_eq_true rfl) (Nat.le_of_ble_eq_true rfl) (by rw [hd_74]; rfl) wh_74 (Nat.le_of_ble_eq_true rfl) (hAR 36 (by rw [hd_72]; exact Nat.le_of_ble_eq_true rfl)) (rl_ok (n := 36) rfl (Nat.le_refl _)) (rs_ok (n := 36) rfl (Nat.le_refl _)) dX2_init_13 ?_
  refine go_toph (h1 := hs_75) rfl ?_
  refine go_putqF hC (j := 1) (idx := 15) (nm := "row") (ds := "[I") tyX2 hini (by rw [hd_75]; rfl) rfl rfl hn2 tyX2_ok nmX2 (Nat.le_of_ble_eq_true rfl) rfl rfl (List.mem_cons_of_mem _ (List.mem_append_left _ (List.mem_of_getElem? (i := 5) rfl))) rfl rfl (tyX2_ok _ (Nat.le_of_ble_eq_true rfl)) (fun _ => ⟨rfl, rfl⟩) dX2_init_15 ?_
  refine go_toph (h1 := hs_76) rfl ?_
  exact hret _ _ dX2_init_18
set_option maxRecDepth 100000 in
set_option maxHeartbeats 4000000 in
theorem ci_X4_init : ConA yX4_init wsX4_init (rm_a 1 4 288) [] [.ref 37] hs_78 none hs_86 := by
  have hn4 : ∀ w ∈ wsX40, w ∈ wsX4_init := (fun _ hw => (List.mem_cons_of_mem _ (List.mem_append_right _ hw)))
  refine con_vA (cc := cX4_init) (nL := 1) (by decide) rfl (Nat.le_of_ble_eq_true rfl) ?_
  intro C hC hret hAR hini
  replace hini := hini rfl
  change Go [] C 0 0 0 [(0, .ref 37)] [] hs_78
  refine go_aload_n hC dX4_init_0 rfl 0 rfl ?_
  refine go_obj hC (List.mem_cons_of_mem _ (List.mem_append_left _ (List.mem_of_getElem? (i := 0) rfl))) (List.mem_cons_of_mem _ (List.mem_append_left _ (List.mem_of_getElem? (i := 1) rfl))) (List.mem_cons_of_mem _ (List.mem_append_left _ (List.mem_of_getElem? (i := 2) rfl))) ⟨Nat.le_of_ble_eq_true rfl, Nat.le_of_ble_eq_true rfl⟩ dX4_init_1 ?_
  refine go_aload_n hC dX4_init_4 rfl 0 rfl ?_
  refine go_bipush hC dX4_init_5 k8_12 ?_
  refine go_newa hC (N2 := 12) (Or.inl ⟨rfl, rfl⟩) (List.mem_cons_of_mem _ (List.mem_append_left _ (List.mem_of_getElem? (i := 3) rfl))) (by decide) (by decide) (Nat.le_of_ble_eq_true rfl) (Nat.le_of_ble_eq_true rfl) (Nat.le_of_ble_eq_true rfl) (by rw [hd_78]; rfl) wh_78 (Nat.le_of_ble_eq_true rfl) (hAR 38 (by rw [hd_78]; exact Nat.le_of_ble_eq_true rfl)) (rl_ok (n := 38) rfl (Nat.le_refl _)) (rs_ok (n := 38) rfl (Nat.le_refl _)) dX4_init_7 ?_
  refine go_toph (h1 := hs_79) rfl ?_
  refine go_putqF hC (j := 2) (idx := 9) (nm := "sets") (ds := "[I") tyX4 hini (by rw [hd_79]; rfl) rfl rfl hn4 tyX4_ok nmX4 (Nat.le_of_ble_eq_true rfl) rfl rfl (List.mem_cons_of_mem _ (List.mem_append_left _ (List.mem_of_getElem? (i := 4) rfl))) rfl rfl (tyX4_ok _ (Nat.le_of_ble_eq_true rfl)) (fun _ => ⟨rfl, rfl⟩) dX4_init_9 ?_
  refine go_toph (h1 := hs_80) rfl ?_
  refine go_aload_n hC dX4_init_12 rfl 0 rfl ?_
  refine go_bipush hC dX4_init_13 k8_12 ?_
  refine go_newa hC (N2 := 12) (Or.inl ⟨rfl, rfl⟩) (List.mem_cons_of_mem _ (List.mem_append_left _ (List.mem_of_getElem? (i := 3) rfl))) (by decide) (by decide) (Nat.le_of_ble_eq_true rfl) (Nat.le_of_ble_eq_true rfl) (Nat.le_of_ble_eq_true rfl) (by rw [hd_80]; rfl) wh_80 (Nat.le_of_ble_eq_true rfl) (hAR 39 (by rw [hd_78]; exact Nat.le_of_ble_eq_true rfl)) (rl_ok (n := 39) rfl (Nat.le_refl _)) (rs_ok (n := 39) rfl (Nat.le_refl _)) dX4_init_15 ?_
  refine go_toph (h1 := hs_81) rfl ?_
  refine go_putqF hC (j := 3) (idx := 15) (nm := "shown") (ds := "[I") tyX4 hini (by rw [hd_81]; rfl) rfl rfl hn4 tyX4_ok nmX4 (Nat.le_of_ble_eq_true rfl) rfl rfl (List.mem_cons_of_mem _ (List.mem_append_left _ (List.mem_of_getElem? (i := 5) rfl))) rfl rfl (tyX4_ok _ (Nat.le_of_ble_eq_true rfl)) (fun _ => ⟨rfl, rfl⟩) dX4_init_17 ?_
  refine go_toph (h1 := hs_82) rfl ?_
  refine go_aload_n hC dX4_init_20 rfl 0 rfl ?_
  refine go_sipush hC dX4_init_21 k16_256 ?_
  refine go_newa hC (N2 := 256) (Or.inl ⟨rfl, rfl⟩) (List.mem_cons_of_mem _ (List.mem_append_left _ (List.mem_of_getElem? (i := 3) rfl))) (by decide) (by decide) (Nat.le_of_ble_eq_true rfl) (Nat.le_of_ble_eq_true rfl) (Nat.le_of_ble_eq_true rfl) (by rw [hd_82]; rfl) wh_82 (Nat.le_of_ble_eq_true rfl) (hAR 40 (by rw [hd_78]; exact Nat.le_of_ble_eq_true rfl)) (rl_ok (n := 40) rfl (Nat.le_refl _)) (rs_ok (n := 40) rfl (Nat.le_refl _)) dX4_init_24 ?_
  refine go_toph (h1 := hs_83) rfl ?_
  refine go_putqF hC (j := 4) (idx := 18) (nm := "sums") (ds := "[I") tyX4 hini (by rw [hd_83]; rfl) rfl rfl hn4 tyX4_ok nmX4 (Nat.le_of_ble_eq_true rfl) rfl rfl (List.mem_cons_of_mem _ (List.mem_append_left _ (List.mem_of_getElem? (i := 6) rfl))) rfl rfl (tyX4_ok _ (Nat.le_of_ble_eq_true rfl)) (fun _ => ⟨rfl, rfl⟩) dX4_init_26 ?_
  refine go_toph (h1 := hs_84) rfl ?_
  refine go_aload_n hC dX4_init_29 rfl 0 rfl ?_
  refine go_bipush hC dX4_init_30 k8_8 ?_
  refine go_newa hC (N2 := 8) (Or.inl ⟨rfl, rfl⟩) (List.mem_cons_of_mem _ (List.mem_append_left _ (List.mem_of_getElem? (i := 3) rfl))) (by decide) (by decide) (Nat.le_of_ble_eq_true rfl) (Nat.le_of_ble_eq_true rfl) (Nat.le_of_ble_eq_true rfl) (by rw [hd_84]; rfl) wh_84 (Nat.le_of_ble_eq_true rfl) (hAR 41 (by rw [hd_78]; exact Nat.le_of_ble_eq_true rfl)) (rl_ok (n := 41) rfl (Nat.le_refl _)) (rs_ok (n := 41) rfl (Nat.le_refl _)) dX4_init_32 ?_
  refine go_toph (h1 := hs_85) rfl ?_
  refine go_putqF hC (j := 5) (idx := 21) (nm := "fittingWith") (ds := "[I") tyX4 hini (by rw [hd_85]; rfl) rfl rfl hn4 tyX4_ok nmX4 (Nat.le_of_ble_eq_true rfl) rfl rfl (List.mem_cons_of_mem _ (List.mem_append_left _ (List.mem_of_getElem? (i := 7) rfl))) rfl rfl (tyX4_ok _ (Nat.le_of_ble_eq_true rfl)) (fun _ => ⟨rfl, rfl⟩) dX4_init_34 ?_
  refine go_toph (h1 := hs_86) rfl ?_
  exact hret _ _ dX4_init_37
set_option maxRecDepth 100000 in
set_option maxHeartbeats 4000000 in
theorem ci_X11_init : ConA yX11_init wsX11_init (rm_a 2 42 3387) [] [.ref 0] hs_1 none hs_89 := by
  have hn0 : ∀ w ∈ wsX00, w ∈ wsX11_init := (fun _ hw => (List.mem_cons_of_mem _ (List.mem_append_left _ (List.mem_append_left _ (List.mem_append_left _ (List.mem_append_right _ hw))))))
  have hn10 : ∀ w ∈ wsX100, w ∈ wsX11_init := (fun _ hw => (List.mem_cons_of_mem _ (List.mem_append_left _ (List.mem_append_left _ (List.mem_append_left _ (List.mem_append_left _ (List.mem_append_left _ (List.mem_append_left _ (List.mem_append_right _ hw)))))))))
  have hn11 : ∀ w ∈ wsX110, w ∈ wsX11_init := (fun _ hw => (List.mem_cons_of_mem _ (List.mem_append_left _ (List.mem_append_left _ (List.mem_append_left _ (List.mem_append_left _ (List.mem_append_left _ (List.mem_append_left _ (List.mem_append_left _ (List.mem_append_right _ hw))))))))))
  have hn2 : ∀ w ∈ wsX20, w ∈ wsX11_init := (fun _ hw => (List.mem_cons_of_mem _ (List.mem_append_left _ (List.mem_append_right _ hw))))
  have hn3 : ∀ w ∈ wsX30, w ∈ wsX11_init := (fun _ hw => (List.mem_cons_of_mem _ (List.mem_append_left _ (List.mem_append_left _ (List.mem_append_left _ (List.mem_append_left _ (List.mem_append_left _ (List.mem_append_right _ hw))))))))
  have hn4 : ∀ w ∈ wsX40, w ∈ wsX11_init := (fun _ hw => (List.mem_cons_of_mem _ (List.mem_append_right _ hw)))
  have hn5 : ∀ w ∈ wsX50, w ∈ wsX11_init := (fun _ hw => (List.mem_cons_of_mem _ (List.mem_append_left _ (List.mem_append_left _ (List.mem_append_right _ hw)))))
  have hn6 : ∀ w ∈ wsX60, w ∈ wsX11_init := (fun _ hw => (List.mem_cons_of_mem _ (List.mem_append_left _ (List.mem_append_left _ (List.mem_append_left _ (List.mem_append_left _ (List.mem_append_right _ hw)))))))
  have hn8 : ∀ w ∈ wsX80, w ∈ wsX11_init := (fun _ hw => (List.mem_cons_of_mem _ (List.mem_append_left _ (List.mem_append_left _ (List.mem_append_left _ (List.mem_append_left _ (List.mem_append_left _ (List.mem_append_left _ (List.mem_append_left _ (List.mem_append_left _ (List.mem_append_right _ hw)))))))))))
  refine con_vA (cc := cX11_init) (nL := 1) (by decide) rfl (Nat.le_of_ble_eq_true rfl) ?_
  intro C hC hret hAR hini
  replace hini := hini rfl
  change Go [] C 0 0 0 [(0, .ref 0)] [] hs_1
  refine go_aload_n hC dX11_init_0 rfl 0 rfl ?_
  refine go_obj hC (List.mem_cons_of_mem _ (List.mem_append_left _ (List.mem_append_left _ (List.mem_append_left _ (List.mem_append_left _ (List.mem_append_left _ (List.mem_append_left _ (List.mem_append_left _ (List.mem_append_left _ (List.mem_append_left _ (List.mem_append_left _ (List.mem_of_getElem? (i := 0) rfl)))))))))))) (List.mem_cons_of_mem _ (List.mem_append_left _ (List.mem_append_left _ (List.mem_append_left _ (List.mem_append_left _ (List.mem_append_left _ (List.mem_append_left _ (List.mem_append_left _ (List.mem_append_left _ (List.mem_append_left _ (List.mem_append_left _ (List.mem_of_getElem? (i := 1) rfl)))))))))))) (List.mem_cons_of_mem _ (List.mem_append_left _ (List.mem_append_left _ (List.mem_append_left _ (List.mem_append_left _ (List.mem_append_left _ (List.mem_append_left _ (List.mem_append_left _ (List.mem_append_left _ (List.mem_append_left _ (List.mem_append_left _ (List.mem_of_getElem? (i := 2) rfl)))))))))))) ⟨Nat.le_of_ble_eq_true rfl, Nat.le_of_ble_eq_true rfl⟩ dX11_init_1 ?_
  refine go_aload_n hC dX11_init_4 rfl 0 rfl ?_
  refine go_new hC (ci := 8) (ks := [(2, 2), (2, 3), (2, 4)]) tyX8 rfl hn8 tyX8_ok (List.mem_cons_of_mem _ (List.mem_append_left _ (List.mem_append_left _ (List.mem_append_left _ (List.mem_append_left _ (List.mem_append_left _ (List.mem_append_left _ (List.mem_append_left _ (List.mem_append_left _ (List.mem_append_left _ (List.mem_append_left _ (List.mem_of_getElem? (i := 3) rfl)))))))))))) (List.mem_cons_of_mem _ (List.mem_append_left _ (List.mem_append_left _ (List.mem_append_left _ (List.mem_append_left _ (List.mem_append_left _ (List.mem_append_left _ (List.mem_append_left _ (List.mem_append_left _ (List.mem_append_left _ (List.mem_append_left _ (List.mem_of_getElem? (i := 4) rfl)))))))))))) (List.mem_cons_of_mem _ (List.mem_append_left _ (List.mem_append_left _ (List.mem_append_left _ (List.mem_append_left _ (List.mem_append_left _ (List.mem_append_left _ (List.mem_append_left _ (List.mem_append_left _ (List.mem_append_left _ (List.mem_append_left _ (List.mem_of_getElem? (i := 5) rfl)))))))))))) (fun j hj => match j, hj with | 0, _ => rfl | 1, _ => rfl | 2, _ => rfl | j + 3, hj => absurd hj (by omega)) (by decide) (Nat.le_of_ble_eq_true rfl) (Nat.le_of_ble_eq_true rfl) (by rw [hd_1]; rfl) wh_1 (Nat.le_of_ble_eq_true rfl) (hAR 1 (by rw [hd_1]; exact Nat.le_of_ble_eq_true rfl)) (rl_ok (n := 1) rfl (Nat.le_refl _)) (rs_ok (n := 1) rfl (Nat.le_refl _)) dX11_init_5 ?_
  refine go_toph (h1 := hs_2) rfl ?_
  refine go_dup hC dX11_init_8 rfl ?_
  refine go_callI hC ci_X8_init gX11_init_X8_init rfl 3 408 ⟨rfl, rfl⟩ (List.mem_cons_of_mem _ (List.mem_append_left _ (List.mem_append_left _ (List.mem_append_left _ (List.mem_append_left _ (List.mem_append_left _ (List.mem_append_left _ (List.mem_append_left _ (List.mem_append_left _ (List.mem_append_left _ (List.mem_append_left _ (List.mem_of_getElem? (i := 5) rfl)))))))))))) (List.mem_cons_of_mem _ (List.mem_append_left _ (List.mem_append_left _ (List.mem_append_left _ (List.mem_append_left _ (List.mem_append_left _ (List.mem_append_left _ (List.mem_append_left _ (List.mem_append_left _ (List.mem_append_left _ (List.mem_append_right _ (List.mem_append_left _ (List.mem_of_getElem? (i := 15) rfl))))))))))))) (List.mem_cons_of_mem _ (List.mem_append_left _ (List.mem_append_left _ (List.mem_append_left _ (List.mem_append_left _ (List.mem_append_left _ (List.mem_append_left _ (List.mem_append_left _ (List.mem_append_left _ (List.mem_append_left _ (List.mem_append_right _ (List.mem_append_left _ (List.mem_of_getElem? (i := 16) rfl))))))))))))) rfl 0 (by decide +kernel) ⟨Nat.le_of_ble_eq_true rfl, Nat.le_of_ble_eq_true rfl⟩ rfl rfl (Nat.le_of_ble_eq_true rfl) ⟨Nat.le_of_ble_eq_true rfl, Nat.le_of_ble_eq_true rfl⟩ (by rw [hd_2]; rfl) (hAR 2 (by rw [hd_1]; exact Nat.le_of_ble_eq_true rfl)) (rl_ok (n := 2) rfl (Nat.le_refl _)) (rs_ok (n := 2) rfl (Nat.le_refl _)) dX11_init_9 ?_
  refine go_putqF hC (j := 0) (idx := 12) (nm := "sheets") (ds := "LLampWays$Sheets;") tyX11 hini (by rw [hd_12]; rfl) rfl rfl hn11 tyX11_ok nmX11 (Nat.le_of_ble_eq_true rfl) rfl rfl (List.mem_cons_of_mem _ (List.mem_append_left _ (List.mem_append_left _ (List.mem_append_left _ (List.mem_append_left _ (List.mem_append_left _ (List.mem_append_left _ (List.mem_append_left _ (List.mem_append_left _ (List.mem_append_left _ (List.mem_append_left _ (List.mem_of_getElem? (i := 6) rfl)))))))))))) rfl rfl (tyX11_ok _ (Nat.le_of_ble_eq_true rfl)) (fun _ => ⟨rfl, rfl⟩) dX11_init_12 ?_
  refine go_toph (h1 := hs_13) rfl ?_
  refine go_aload_n hC dX11_init_15 rfl 0 rfl ?_
  refine go_new hC (ci := 10) (ks := [(2, 6), (2, 7), (2, 8), (2, 9), (0, 0), (0, 0), (0, 0), (2, 4), (0, 0), (0, 0), (0, 0)]) tyX10 rfl hn10 tyX10_ok (List.mem_cons_of_mem _ (List.mem_append_left _ (List.mem_append_left _ (List.mem_append_left _ (List.mem_append_left _ (List.mem_append_left _ (List.mem_append_left _ (List.mem_append_left _ (List.mem_append_left _ (List.mem_append_left _ (List.mem_append_left _ (List.mem_of_getElem? (i := 7) rfl)))))))))))) (List.mem_cons_of_mem _ (List.mem_append_left _ (List.mem_append_left _ (List.mem_append_left _ (List.mem_append_left _ (List.mem_append_left _ (List.mem_append_left _ (List.mem_append_left _ (List.mem_append_left _ (List.mem_append_left _ (List.mem_append_left _ (List.mem_of_getElem? (i := 8) rfl)))))))))))) (List.mem_cons_of_mem _ (List.mem_append_left _ (List.mem_append_left _ (List.mem_append_left _ (List.mem_append_left _ (List.mem_append_left _ (List.mem_append_left _ (List.mem_append_left _ (List.mem_append_left _ (List.mem_append_left _ (List.mem_append_left _ (List.mem_of_getElem? (i := 9) rfl)))))))))))) (fun j hj => match j, hj with | 0, _ => rfl | 1, _ => rfl | 2, _ => rfl | 3, _ => rfl | 4, _ => rfl | 5, _ => rfl | 6, _ => rfl | 7, _ => rfl | 8, _ => rfl | 9, _ => rfl | 10, _ => rfl | j + 11, hj => absurd hj (by omega)) (by decide) (Nat.le_of_ble_eq_true rfl) (Nat.le_of_ble_eq_true rfl) (by rw [hd_13]; rfl) wh_13 (Nat.le_of_ble_eq_true rfl) (hAR 5 (by rw [hd_1]; exact Nat.le_of_ble_eq_true rfl)) (rl_ok (n := 5) rfl (Nat.le_refl _)) (rs_ok (n := 5) rfl (Nat.le_refl _)) dX11_init_16 ?_
  refine go_toph (h1 := hs_14) rfl ?_
  refine go_dup hC dX11_init_19 rfl ?_
  refine go_callI hC ci_X10_init gX11_init_X10_init rfl 4 56 ⟨rfl, rfl⟩ (List.mem_cons_of_mem _ (List.mem_append_left _ (List.mem_append_left _ (List.mem_append_left _ (List.mem_append_left _ (List.mem_append_left _ (List.mem_append_left _ (List.mem_append_left _ (List.mem_append_left _ (List.mem_append_left _ (List.mem_append_left _ (List.mem_of_getElem? (i := 9) rfl)))))))))))) (List.mem_cons_of_mem _ (List.mem_append_left _ (List.mem_append_left _ (List.mem_append_left _ (List.mem_append_left _ (List.mem_append_left _ (List.mem_append_left _ (List.mem_append_left _ (List.mem_append_left _ (List.mem_append_left _ (List.mem_append_right _ (List.mem_append_left _ (List.mem_of_getElem? (i := 22) rfl))))))))))))) (List.mem_cons_of_mem _ (List.mem_append_left _ (List.mem_append_left _ (List.mem_append_left _ (List.mem_append_left _ (List.mem_append_left _ (List.mem_append_left _ (List.mem_append_left _ (List.mem_append_left _ (List.mem_append_left _ (List.mem_append_right _ (List.mem_append_left _ (List.mem_of_getElem? (i := 23) rfl))))))))))))) rfl 0 (by decide +kernel) ⟨Nat.le_of_ble_eq_true rfl, Nat.le_of_ble_eq_true rfl⟩ rfl rfl (Nat.le_of_ble_eq_true rfl) ⟨Nat.le_of_ble_eq_true rfl, Nat.le_of_ble_eq_true rfl⟩ (by rw [hd_14]; rfl) (hAR 6 (by rw [hd_1]; exact Nat.le_of_ble_eq_true rfl)) (rl_ok (n := 6) rfl (Nat.le_refl _)) (rs_ok (n := 6) rfl (Nat.le_refl _)) dX11_init_20 ?_
  refine go_putqF hC (j := 1) (idx := 21) (nm := "text") (ds := "LLampWays$Text;") tyX11 hini (by rw [hd_22]; rfl) rfl rfl hn11 tyX11_ok nmX11 (Nat.le_of_ble_eq_true rfl) rfl rfl (List.mem_cons_of_mem _ (List.mem_append_left _ (List.mem_append_left _ (List.mem_append_left _ (List.mem_append_left _ (List.mem_append_left _ (List.mem_append_left _ (List.mem_append_left _ (List.mem_append_left _ (List.mem_append_left _ (List.mem_append_left _ (List.mem_of_getElem? (i := 10) rfl)))))))))))) rfl rfl (tyX11_ok _ (Nat.le_of_ble_eq_true rfl)) (fun _ => ⟨rfl, rfl⟩) dX11_init_23 ?_
  refine go_toph (h1 := hs_23) rfl ?_
  refine go_aload_n hC dX11_init_26 rfl 0 rfl ?_
  refine go_new hC (ci := 3) (ks := [(0, 0), (0, 0), (0, 0), (2, 11), (2, 12), (2, 13), (2, 14), (2, 15), (2, 16)]) tyX3 rfl hn3 tyX3_ok (List.mem_cons_of_mem _ (List.mem_append_left _ (List.mem_append_left _ (List.mem_append_left _ (List.mem_append_left _ (List.mem_append_left _ (List.mem_append_left _ (List.mem_append_left _ (List.mem_append_left _ (List.mem_append_left _ (List.mem_append_left _ (List.mem_of_getElem? (i := 11) rfl)))))))))))) (List.mem_cons_of_mem _ (List.mem_append_left _ (List.mem_append_left _ (List.mem_append_left _ (List.mem_append_left _ (List.mem_append_left _ (List.mem_append_left _ (List.mem_append_left _ (List.mem_append_left _ (List.mem_append_left _ (List.mem_append_left _ (List.mem_of_getElem? (i := 12) rfl)))))))))))) (List.mem_cons_of_mem _ (List.mem_append_left _ (List.mem_append_left _ (List.mem_append_left _ (List.mem_append_left _ (List.mem_append_left _ (List.mem_append_left _ (List.mem_append_left _ (List.mem_append_left _ (List.mem_append_left _ (List.mem_append_left _ (List.mem_of_getElem? (i := 13) rfl)))))))))))) (fun j hj => match j, hj with | 0, _ => rfl | 1, _ => rfl | 2, _ => rfl | 3, _ => rfl | 4, _ => rfl | 5, _ => rfl | 6, _ => rfl | 7, _ => rfl | 8, _ => rfl | j + 9, hj => absurd hj (by omega)) (by decide) (Nat.le_of_ble_eq_true rfl) (Nat.le_of_ble_eq_true rfl) (by rw [hd_23]; rfl) wh_23 (Nat.le_of_ble_eq_true rfl) (hAR 10 (by rw [hd_1]; exact Nat.le_of_ble_eq_true rfl)) (rl_ok (n := 10) rfl (Nat.le_refl _)) (rs_ok (n := 10) rfl (Nat.le_refl _)) dX11_init_27 ?_
  refine go_toph (h1 := hs_24) rfl ?_
  refine go_dup hC dX11_init_30 rfl ?_
  refine go_callI hC ci_X3_init gX11_init_X3_init rfl 6 134 ⟨rfl, rfl⟩ (List.mem_cons_of_mem _ (List.mem_append_left _ (List.mem_append_left _ (List.mem_append_left _ (List.mem_append_left _ (List.mem_append_left _ (List.mem_append_left _ (List.mem_append_left _ (List.mem_append_left _ (List.mem_append_left _ (List.mem_append_left _ (List.mem_of_getElem? (i := 13) rfl)))))))))))) (List.mem_cons_of_mem _ (List.mem_append_left _ (List.mem_append_left _ (List.mem_append_left _ (List.mem_append_left _ (List.mem_append_left _ (List.mem_append_left _ (List.mem_append_left _ (List.mem_append_left _ (List.mem_append_left _ (List.mem_append_right _ (List.mem_append_right _ (List.mem_append_left _ (List.mem_of_getElem? (i := 6) rfl)))))))))))))) (List.mem_cons_of_mem _ (List.mem_append_left _ (List.mem_append_left _ (List.mem_append_left _ (List.mem_append_left _ (List.mem_append_left _ (List.mem_append_left _ (List.mem_append_left _ (List.mem_append_left _ (List.mem_append_left _ (List.mem_append_right _ (List.mem_append_right _ (List.mem_append_left _ (List.mem_of_getElem? (i := 7) rfl)))))))))))))) rfl 0 (by decide +kernel) ⟨Nat.le_of_ble_eq_true rfl, Nat.le_of_ble_eq_true rfl⟩ rfl rfl (Nat.le_of_ble_eq_true rfl) ⟨Nat.le_of_ble_eq_true rfl, Nat.le_of_ble_eq_true rfl⟩ (by rw [hd_24]; rfl) (hAR 11 (by rw [hd_1]; exact Nat.le_of_ble_eq_true rfl)) (rl_ok (n := 11) rfl (Nat.le_refl _)) (rs_ok (n := 11) rfl (Nat.le_refl _)) dX11_init_31 ?_
  refine go_putqF hC (j := 2) (idx := 28) (nm := "plot") (ds := "LLampWays$House;") tyX11 hini (by rw [hd_36]; rfl) rfl rfl hn11 tyX11_ok nmX11 (Nat.le_of_ble_eq_true rfl) rfl rfl (List.mem_cons_of_mem _ (List.mem_append_left _ (List.mem_append_left _ (List.mem_append_left _ (List.mem_append_left _ (List.mem_append_left _ (List.mem_append_left _ (List.mem_append_left _ (List.mem_append_left _ (List.mem_append_left _ (List.mem_append_left _ (List.mem_of_getElem? (i := 14) rfl)))))))))))) rfl rfl (tyX11_ok _ (Nat.le_of_ble_eq_true rfl)) (fun _ => ⟨rfl, rfl⟩) dX11_init_34 ?_
  refine go_toph (h1 := hs_37) rfl ?_
  refine go_aload_n hC dX11_init_37 rfl 0 rfl ?_
  refine go_new hC (ci := 6) (ks := [(0, 0), (2, 18), (2, 19), (2, 20), (2, 21)]) tyX6 rfl hn6 tyX6_ok (List.mem_cons_of_mem _ (List.mem_append_left _ (List.mem_append_left _ (List.mem_append_left _ (List.mem_append_left _ (List.mem_append_left _ (List.mem_append_left _ (List.mem_append_left _ (List.mem_append_left _ (List.mem_append_left _ (List.mem_append_left _ (List.mem_of_getElem? (i := 15) rfl)))))))))))) (List.mem_cons_of_mem _ (List.mem_append_left _ (List.mem_append_left _ (List.mem_append_left _ (List.mem_append_left _ (List.mem_append_left _ (List.mem_append_left _ (List.mem_append_left _ (List.mem_append_left _ (List.mem_append_left _ (List.mem_append_left _ (List.mem_of_getElem? (i := 16) rfl)))))))))))) (List.mem_cons_of_mem _ (List.mem_append_left _ (List.mem_append_left _ (List.mem_append_left _ (List.mem_append_left _ (List.mem_append_left _ (List.mem_append_left _ (List.mem_append_left _ (List.mem_append_left _ (List.mem_append_left _ (List.mem_append_left _ (List.mem_of_getElem? (i := 17) rfl)))))))))))) (fun j hj => match j, hj with | 0, _ => rfl | 1, _ => rfl | 2, _ => rfl | 3, _ => rfl | 4, _ => rfl | j + 5, hj => absurd hj (by omega)) (by decide) (Nat.le_of_ble_eq_true rfl) (Nat.le_of_ble_eq_true rfl) (by rw [hd_37]; rfl) wh_37 (Nat.le_of_ble_eq_true rfl) (hAR 17 (by rw [hd_1]; exact Nat.le_of_ble_eq_true rfl)) (rl_ok (n := 17) rfl (Nat.le_refl _)) (rs_ok (n := 17) rfl (Nat.le_refl _)) dX11_init_38 ?_
  refine go_toph (h1 := hs_38) rfl ?_
  refine go_dup hC dX11_init_41 rfl ?_
  refine go_callI hC ci_X6_init gX11_init_X6_init rfl 4 32 ⟨rfl, rfl⟩ (List.mem_cons_of_mem _ (List.mem_append_left _ (List.mem_append_left _ (List.mem_append_left _ (List.mem_append_left _ (List.mem_append_left _ (List.mem_append_left _ (List.mem_append_left _ (List.mem_append_left _ (List.mem_append_left _ (List.mem_append_left _ (List.mem_of_getElem? (i := 17) rfl)))))))))))) (List.mem_cons_of_mem _ (List.mem_append_left _ (List.mem_append_left _ (List.mem_append_left _ (List.mem_append_left _ (List.mem_append_left _ (List.mem_append_left _ (List.mem_append_left _ (List.mem_append_left _ (List.mem_append_left _ (List.mem_append_right _ (List.mem_append_right _ (List.mem_append_left _ (List.mem_of_getElem? (i := 17) rfl)))))))))))))) (List.mem_cons_of_mem _ (List.mem_append_left _ (List.mem_append_left _ (List.mem_append_left _ (List.mem_append_left _ (List.mem_append_left _ (List.mem_append_left _ (List.mem_append_left _ (List.mem_append_left _ (List.mem_append_left _ (List.mem_append_right _ (List.mem_append_right _ (List.mem_append_left _ (List.mem_of_getElem? (i := 18) rfl)))))))))))))) rfl 0 (by decide +kernel) ⟨Nat.le_of_ble_eq_true rfl, Nat.le_of_ble_eq_true rfl⟩ rfl rfl (Nat.le_of_ble_eq_true rfl) ⟨Nat.le_of_ble_eq_true rfl, Nat.le_of_ble_eq_true rfl⟩ (by rw [hd_38]; rfl) (hAR 18 (by rw [hd_1]; exact Nat.le_of_ble_eq_true rfl)) (rl_ok (n := 18) rfl (Nat.le_refl _)) (rs_ok (n := 18) rfl (Nat.le_refl _)) dX11_init_42 ?_
  refine go_putqF hC (j := 3) (idx := 35) (nm := "points") (ds := "LLampWays$Points;") tyX11 hini (by rw [hd_46]; rfl) rfl rfl hn11 tyX11_ok nmX11 (Nat.le_of_ble_eq_true rfl) rfl rfl (List.mem_cons_of_mem _ (List.mem_append_left _ (List.mem_append_left _ (List.mem_append_left _ (List.mem_append_left _ (List.mem_append_left _ (List.mem_append_left _ (List.mem_append_left _ (List.mem_append_left _ (List.mem_append_left _ (List.mem_append_left _ (List.mem_of_getElem? (i := 18) rfl)))))))))))) rfl rfl (tyX11_ok _ (Nat.le_of_ble_eq_true rfl)) (fun _ => ⟨rfl, rfl⟩) dX11_init_45 ?_
  refine go_toph (h1 := hs_47) rfl ?_
  refine go_aload_n hC dX11_init_48 rfl 0 rfl ?_
  refine go_bipush hC dX11_init_49 k8_6 ?_
  refine go_newq hC (N2 := 6) (List.mem_cons_of_mem _ (List.mem_append_left _ (List.mem_append_left _ (List.mem_append_left _ (List.mem_append_left _ (List.mem_append_left _ (List.mem_append_left _ (List.mem_append_left _ (List.mem_append_left _ (List.mem_append_left _ (List.mem_append_left _ (List.mem_of_getElem? (i := 19) rfl)))))))))))) (by decide) (by decide) (Nat.le_of_ble_eq_true rfl) (Nat.le_of_ble_eq_true rfl) (Nat.le_of_ble_eq_true rfl) (by rw [hd_47]; rfl) wh_47 (Nat.le_of_ble_eq_true rfl) (hAR 22 (by rw [hd_1]; exact Nat.le_of_ble_eq_true rfl)) (rl_ok (n := 22) rfl (Nat.le_refl _)) (rs_ok (n := 22) rfl (Nat.le_refl _)) dX11_init_51 ?_
  refine go_toph (h1 := hs_48) rfl ?_
  refine go_putqF hC (j := 4) (idx := 41) (nm := "ways") (ds := "[LLampWays$Chain;") tyX11 hini (by rw [hd_48]; rfl) rfl rfl hn11 tyX11_ok nmX11 (Nat.le_of_ble_eq_true rfl) rfl rfl (List.mem_cons_of_mem _ (List.mem_append_left _ (List.mem_append_left _ (List.mem_append_left _ (List.mem_append_left _ (List.mem_append_left _ (List.mem_append_left _ (List.mem_append_left _ (List.mem_append_left _ (List.mem_append_left _ (List.mem_append_left _ (List.mem_of_getElem? (i := 20) rfl)))))))))))) rfl rfl (tyX11_ok _ (Nat.le_of_ble_eq_true rfl)) (fun _ => ⟨rfl, rfl⟩) dX11_init_54 ?_
  refine go_toph (h1 := hs_49) rfl ?_
  refine go_aload_n hC dX11_init_57 rfl 0 rfl ?_
  refine go_new hC (ci := 0) (ks := [(2, 24), (2, 25), (2, 26)]) tyX0 rfl hn0 tyX0_ok (List.mem_cons_of_mem _ (List.mem_append_left _ (List.mem_append_left _ (List.mem_append_left _ (List.mem_append_left _ (List.mem_append_left _ (List.mem_append_left _ (List.mem_append_left _ (List.mem_append_left _ (List.mem_append_left _ (List.mem_append_left _ (List.mem_of_getElem? (i := 21) rfl)))))))))))) (List.mem_cons_of_mem _ (List.mem_append_left _ (List.mem_append_left _ (List.mem_append_left _ (List.mem_append_left _ (List.mem_append_left _ (List.mem_append_left _ (List.mem_append_left _ (List.mem_append_left _ (List.mem_append_left _ (List.mem_append_left _ (List.mem_of_getElem? (i := 22) rfl)))))))))))) (List.mem_cons_of_mem _ (List.mem_append_left _ (List.mem_append_left _ (List.mem_append_left _ (List.mem_append_left _ (List.mem_append_left _ (List.mem_append_left _ (List.mem_append_left _ (List.mem_append_left _ (List.mem_append_left _ (List.mem_append_left _ (List.mem_of_getElem? (i := 23) rfl)))))))))))) (fun j hj => match j, hj with | 0, _ => rfl | 1, _ => rfl | 2, _ => rfl | j + 3, hj => absurd hj (by omega)) (by decide) (Nat.le_of_ble_eq_true rfl) (Nat.le_of_ble_eq_true rfl) (by rw [hd_49]; rfl) wh_49 (Nat.le_of_ble_eq_true rfl) (hAR 23 (by rw [hd_1]; exact Nat.le_of_ble_eq_true rfl)) (rl_ok (n := 23) rfl (Nat.le_refl _)) (rs_ok (n := 23) rfl (Nat.le_refl _)) dX11_init_58 ?_
  refine go_toph (h1 := hs_50) rfl ?_
  refine go_dup hC dX11_init_61 rfl ?_
  refine go_callI hC ci_X0_init gX11_init_X0_init rfl 3 2120 ⟨rfl, rfl⟩ (List.mem_cons_of_mem _ (List.mem_append_left _ (List.mem_append_left _ (List.mem_append_left _ (List.mem_append_left _ (List.mem_append_left _ (List.mem_append_left _ (List.mem_append_left _ (List.mem_append_left _ (List.mem_append_left _ (List.mem_append_left _ (List.mem_of_getElem? (i := 23) rfl)))))))))))) (List.mem_cons_of_mem _ (List.mem_append_left _ (List.mem_append_left _ (List.mem_append_left _ (List.mem_append_left _ (List.mem_append_left _ (List.mem_append_left _ (List.mem_append_left _ (List.mem_append_left _ (List.mem_append_left _ (List.mem_append_right _ (List.mem_append_right _ (List.mem_append_right _ (List.mem_append_left _ (List.mem_of_getElem? (i := 1) rfl))))))))))))))) (List.mem_cons_of_mem _ (List.mem_append_left _ (List.mem_append_left _ (List.mem_append_left _ (List.mem_append_left _ (List.mem_append_left _ (List.mem_append_left _ (List.mem_append_left _ (List.mem_append_left _ (List.mem_append_left _ (List.mem_append_right _ (List.mem_append_right _ (List.mem_append_right _ (List.mem_append_left _ (List.mem_of_getElem? (i := 2) rfl))))))))))))))) rfl 0 (by decide +kernel) ⟨Nat.le_of_ble_eq_true rfl, Nat.le_of_ble_eq_true rfl⟩ rfl rfl (Nat.le_of_ble_eq_true rfl) ⟨Nat.le_of_ble_eq_true rfl, Nat.le_of_ble_eq_true rfl⟩ (by rw [hd_50]; rfl) (hAR 24 (by rw [hd_1]; exact Nat.le_of_ble_eq_true rfl)) (rl_ok (n := 24) rfl (Nat.le_refl _)) (rs_ok (n := 24) rfl (Nat.le_refl _)) dX11_init_62 ?_
  refine go_putqF hC (j := 6) (idx := 48) (nm := "cables") (ds := "LLampWays$Cables;") tyX11 hini (by rw [hd_56]; rfl) rfl rfl hn11 tyX11_ok nmX11 (Nat.le_of_ble_eq_true rfl) rfl rfl (List.mem_cons_of_mem _ (List.mem_append_left _ (List.mem_append_left _ (List.mem_append_left _ (List.mem_append_left _ (List.mem_append_left _ (List.mem_append_left _ (List.mem_append_left _ (List.mem_append_left _ (List.mem_append_left _ (List.mem_append_right _ (List.mem_append_left _ (List.mem_of_getElem? (i := 0) rfl))))))))))))) rfl rfl (tyX11_ok _ (Nat.le_of_ble_eq_true rfl)) (fun _ => ⟨rfl, rfl⟩) dX11_init_65 ?_
  refine go_toph (h1 := hs_57) rfl ?_
  refine go_aload_n hC dX11_init_68 rfl 0 rfl ?_
  refine go_new hC (ci := 5) (ks := [(2, 28), (2, 29), (2, 30), (2, 31), (2, 32), (2, 33), (0, 0), (0, 0), (0, 0), (0, 0)]) tyX5 rfl hn5 tyX5_ok (List.mem_cons_of_mem _ (List.mem_append_left _ (List.mem_append_left _ (List.mem_append_left _ (List.mem_append_left _ (List.mem_append_left _ (List.mem_append_left _ (List.mem_append_left _ (List.mem_append_left _ (List.mem_append_left _ (List.mem_append_right _ (List.mem_append_left _ (List.mem_of_getElem? (i := 1) rfl))))))))))))) (List.mem_cons_of_mem _ (List.mem_append_left _ (List.mem_append_left _ (List.mem_append_left _ (List.mem_append_left _ (List.mem_append_left _ (List.mem_append_left _ (List.mem_append_left _ (List.mem_append_left _ (List.mem_append_left _ (List.mem_append_right _ (List.mem_append_left _ (List.mem_of_getElem? (i := 2) rfl))))))))))))) (List.mem_cons_of_mem _ (List.mem_append_left _ (List.mem_append_left _ (List.mem_append_left _ (List.mem_append_left _ (List.mem_append_left _ (List.mem_append_left _ (List.mem_append_left _ (List.mem_append_left _ (List.mem_append_left _ (List.mem_append_right _ (List.mem_append_left _ (List.mem_of_getElem? (i := 3) rfl))))))))))))) (fun j hj => match j, hj with | 0, _ => rfl | 1, _ => rfl | 2, _ => rfl | 3, _ => rfl | 4, _ => rfl | 5, _ => rfl | 6, _ => rfl | 7, _ => rfl | 8, _ => rfl | 9, _ => rfl | j + 10, hj => absurd hj (by omega)) (by decide) (Nat.le_of_ble_eq_true rfl) (Nat.le_of_ble_eq_true rfl) (by rw [hd_57]; rfl) wh_57 (Nat.le_of_ble_eq_true rfl) (hAR 27 (by rw [hd_1]; exact Nat.le_of_ble_eq_true rfl)) (rl_ok (n := 27) rfl (Nat.le_refl _)) (rs_ok (n := 27) rfl (Nat.le_refl _)) dX11_init_69 ?_
  refine go_toph (h1 := hs_58) rfl ?_
  refine go_dup hC dX11_init_72 rfl ?_
  refine go_callI hC ci_X5_init gX11_init_X5_init rfl 6 284 ⟨rfl, rfl⟩ (List.mem_cons_of_mem _ (List.mem_append_left _ (List.mem_append_left _ (List.mem_append_left _ (List.mem_append_left _ (List.mem_append_left _ (List.mem_append_left _ (List.mem_append_left _ (List.mem_append_left _ (List.mem_append_left _ (List.mem_append_right _ (List.mem_append_left _ (List.mem_of_getElem? (i := 3) rfl))))))))))))) (List.mem_cons_of_mem _ (List.mem_append_left _ (List.mem_append_left _ (List.mem_append_left _ (List.mem_append_left _ (List.mem_append_left _ (List.mem_append_left _ (List.mem_append_left _ (List.mem_append_left _ (List.mem_append_left _ (List.mem_append_right _ (List.mem_append_right _ (List.mem_append_right _ (List.mem_append_left _ (List.mem_of_getElem? (i := 8) rfl))))))))))))))) (List.mem_cons_of_mem _ (List.mem_append_left _ (List.mem_append_left _ (List.mem_append_left _ (List.mem_append_left _ (List.mem_append_left _ (List.mem_append_left _ (List.mem_append_left _ (List.mem_append_left _ (List.mem_append_left _ (List.mem_append_right _ (List.mem_append_right _ (List.mem_append_right _ (List.mem_append_left _ (List.mem_of_getElem? (i := 9) rfl))))))))))))))) rfl 0 (by decide +kernel) ⟨Nat.le_of_ble_eq_true rfl, Nat.le_of_ble_eq_true rfl⟩ rfl rfl (Nat.le_of_ble_eq_true rfl) ⟨Nat.le_of_ble_eq_true rfl, Nat.le_of_ble_eq_true rfl⟩ (by rw [hd_58]; rfl) (hAR 28 (by rw [hd_1]; exact Nat.le_of_ble_eq_true rfl)) (rl_ok (n := 28) rfl (Nat.le_refl _)) (rs_ok (n := 28) rfl (Nat.le_refl _)) dX11_init_73 ?_
  refine go_putqF hC (j := 7) (idx := 55) (nm := "plans") (ds := "LLampWays$Plans;") tyX11 hini (by rw [hd_70]; rfl) rfl rfl hn11 tyX11_ok nmX11 (Nat.le_of_ble_eq_true rfl) rfl rfl (List.mem_cons_of_mem _ (List.mem_append_left _ (List.mem_append_left _ (List.mem_append_left _ (List.mem_append_left _ (List.mem_append_left _ (List.mem_append_left _ (List.mem_append_left _ (List.mem_append_left _ (List.mem_append_left _ (List.mem_append_right _ (List.mem_append_left _ (List.mem_of_getElem? (i := 4) rfl))))))))))))) rfl rfl (tyX11_ok _ (Nat.le_of_ble_eq_true rfl)) (fun _ => ⟨rfl, rfl⟩) dX11_init_76 ?_
  refine go_toph (h1 := hs_71) rfl ?_
  refine go_aload_n hC dX11_init_79 rfl 0 rfl ?_
  refine go_new hC (ci := 2) (ks := [(2, 35), (2, 36), (0, 0)]) tyX2 rfl hn2 tyX2_ok (List.mem_cons_of_mem _ (List.mem_append_left _ (List.mem_append_left _ (List.mem_append_left _ (List.mem_append_left _ (List.mem_append_left _ (List.mem_append_left _ (List.mem_append_left _ (List.mem_append_left _ (List.mem_append_left _ (List.mem_append_right _ (List.mem_append_left _ (List.mem_of_getElem? (i := 5) rfl))))))))))))) (List.mem_cons_of_mem _ (List.mem_append_left _ (List.mem_append_left _ (List.mem_append_left _ (List.mem_append_left _ (List.mem_append_left _ (List.mem_append_left _ (List.mem_append_left _ (List.mem_append_left _ (List.mem_append_left _ (List.mem_append_right _ (List.mem_append_left _ (List.mem_of_getElem? (i := 6) rfl))))))))))))) (List.mem_cons_of_mem _ (List.mem_append_left _ (List.mem_append_left _ (List.mem_append_left _ (List.mem_append_left _ (List.mem_append_left _ (List.mem_append_left _ (List.mem_append_left _ (List.mem_append_left _ (List.mem_append_left _ (List.mem_append_right _ (List.mem_append_left _ (List.mem_of_getElem? (i := 7) rfl))))))))))))) (fun j hj => match j, hj with | 0, _ => rfl | 1, _ => rfl | 2, _ => rfl | j + 3, hj => absurd hj (by omega)) (by decide) (Nat.le_of_ble_eq_true rfl) (Nat.le_of_ble_eq_true rfl) (by rw [hd_71]; rfl) wh_71 (Nat.le_of_ble_eq_true rfl) (hAR 34 (by rw [hd_1]; exact Nat.le_of_ble_eq_true rfl)) (rl_ok (n := 34) rfl (Nat.le_refl _)) (rs_ok (n := 34) rfl (Nat.le_refl _)) dX11_init_80 ?_
  refine go_toph (h1 := hs_72) rfl ?_
  refine go_dup hC dX11_init_83 rfl ?_
  refine go_callI hC ci_X2_init gX11_init_X2_init rfl 2 8 ⟨rfl, rfl⟩ (List.mem_cons_of_mem _ (List.mem_append_left _ (List.mem_append_left _ (List.mem_append_left _ (List.mem_append_left _ (List.mem_append_left _ (List.mem_append_left _ (List.mem_append_left _ (List.mem_append_left _ (List.mem_append_left _ (List.mem_append_right _ (List.mem_append_left _ (List.mem_of_getElem? (i := 7) rfl))))))))))))) (List.mem_cons_of_mem _ (List.mem_append_left _ (List.mem_append_left _ (List.mem_append_left _ (List.mem_append_left _ (List.mem_append_left _ (List.mem_append_left _ (List.mem_append_left _ (List.mem_append_left _ (List.mem_append_left _ (List.mem_append_right _ (List.mem_append_right _ (List.mem_append_right _ (List.mem_append_left _ (List.mem_of_getElem? (i := 18) rfl))))))))))))))) (List.mem_cons_of_mem _ (List.mem_append_left _ (List.mem_append_left _ (List.mem_append_left _ (List.mem_append_left _ (List.mem_append_left _ (List.mem_append_left _ (List.mem_append_left _ (List.mem_append_left _ (List.mem_append_left _ (List.mem_append_right _ (List.mem_append_right _ (List.mem_append_right _ (List.mem_append_left _ (List.mem_of_getElem? (i := 19) rfl))))))))))))))) rfl 0 (by decide +kernel) ⟨Nat.le_of_ble_eq_true rfl, Nat.le_of_ble_eq_true rfl⟩ rfl rfl (Nat.le_of_ble_eq_true rfl) ⟨Nat.le_of_ble_eq_true rfl, Nat.le_of_ble_eq_true rfl⟩ (by rw [hd_72]; rfl) (hAR 35 (by rw [hd_1]; exact Nat.le_of_ble_eq_true rfl)) (rl_ok (n := 35) rfl (Nat.le_refl _)) (rs_ok (n := 35) rfl (Nat.le_refl _)) dX11_init_84 ?_
  refine go_putqF hC (j := 8) (idx := 62) (nm := "doors") (ds := "LLampWays$Doors;") tyX11 hini (by rw [hd_76]; rfl) rfl rfl hn11 tyX11_ok nmX11 (Nat.le_of_ble_eq_true rfl) rfl rfl (List.mem_cons_of_mem _ (List.mem_append_left _ (List.mem_append_left _ (List.mem_append_left _ (List.mem_append_left _ (List.mem_append_left _ (List.mem_append_left _ (List.mem_append_left _ (List.mem_append_left _ (List.mem_append_left _ (List.mem_append_right _ (List.mem_append_left _ (List.mem_of_getElem? (i := 8) rfl))))))))))))) rfl rfl (tyX11_ok _ (Nat.le_of_ble_eq_true rfl)) (fun _ => ⟨rfl, rfl⟩) dX11_init_87 ?_
  refine go_toph (h1 := hs_77) rfl ?_
  refine go_aload_n hC dX11_init_90 rfl 0 rfl ?_
  refine go_new hC (ci := 4) (ks := [(0, 0), (0, 0), (2, 38), (2, 39), (2, 40), (2, 41)]) tyX4 rfl hn4 tyX4_ok (List.mem_cons_of_mem _ (List.mem_append_left _ (List.mem_append_left _ (List.mem_append_left _ (List.mem_append_left _ (List.mem_append_left _ (List.mem_append_left _ (List.mem_append_left _ (List.mem_append_left _ (List.mem_append_left _ (List.mem_append_right _ (List.mem_append_left _ (List.mem_of_getElem? (i := 9) rfl))))))))))))) (List.mem_cons_of_mem _ (List.mem_append_left _ (List.mem_append_left _ (List.mem_append_left _ (List.mem_append_left _ (List.mem_append_left _ (List.mem_append_left _ (List.mem_append_left _ (List.mem_append_left _ (List.mem_append_left _ (List.mem_append_right _ (List.mem_append_left _ (List.mem_of_getElem? (i := 10) rfl))))))))))))) (List.mem_cons_of_mem _ (List.mem_append_left _ (List.mem_append_left _ (List.mem_append_left _ (List.mem_append_left _ (List.mem_append_left _ (List.mem_append_left _ (List.mem_append_left _ (List.mem_append_left _ (List.mem_append_left _ (List.mem_append_right _ (List.mem_append_left _ (List.mem_of_getElem? (i := 11) rfl))))))))))))) (fun j hj => match j, hj with | 0, _ => rfl | 1, _ => rfl | 2, _ => rfl | 3, _ => rfl | 4, _ => rfl | 5, _ => rfl | j + 6, hj => absurd hj (by omega)) (by decide) (Nat.le_of_ble_eq_true rfl) (Nat.le_of_ble_eq_true rfl) (by rw [hd_77]; rfl) wh_77 (Nat.le_of_ble_eq_true rfl) (hAR 37 (by rw [hd_1]; exact Nat.le_of_ble_eq_true rfl)) (rl_ok (n := 37) rfl (Nat.le_refl _)) (rs_ok (n := 37) rfl (Nat.le_refl _)) dX11_init_91 ?_
  refine go_toph (h1 := hs_78) rfl ?_
  refine go_dup hC dX11_init_94 rfl ?_
  refine go_callI hC ci_X4_init gX11_init_X4_init rfl 4 288 ⟨rfl, rfl⟩ (List.mem_cons_of_mem _ (List.mem_append_left _ (List.mem_append_left _ (List.mem_append_left _ (List.mem_append_left _ (List.mem_append_left _ (List.mem_append_left _ (List.mem_append_left _ (List.mem_append_left _ (List.mem_append_left _ (List.mem_append_right _ (List.mem_append_left _ (List.mem_of_getElem? (i := 11) rfl))))))))))))) (List.mem_cons_of_mem _ (List.mem_append_left _ (List.mem_append_left _ (List.mem_append_left _ (List.mem_append_left _ (List.mem_append_left _ (List.mem_append_left _ (List.mem_append_left _ (List.mem_append_left _ (List.mem_append_left _ (List.mem_append_right _ (List.mem_append_right _ (List.mem_append_right _ (List.mem_append_right _ (List.mem_of_getElem? (i := 0) rfl))))))))))))))) (List.mem_cons_of_mem _ (List.mem_append_left _ (List.mem_append_left _ (List.mem_append_left _ (List.mem_append_left _ (List.mem_append_left _ (List.mem_append_left _ (List.mem_append_left _ (List.mem_append_left _ (List.mem_append_left _ (List.mem_append_right _ (List.mem_append_right _ (List.mem_append_right _ (List.mem_append_right _ (List.mem_of_getElem? (i := 1) rfl))))))))))))))) rfl 0 (by decide +kernel) ⟨Nat.le_of_ble_eq_true rfl, Nat.le_of_ble_eq_true rfl⟩ rfl rfl (Nat.le_of_ble_eq_true rfl) ⟨Nat.le_of_ble_eq_true rfl, Nat.le_of_ble_eq_true rfl⟩ (by rw [hd_78]; rfl) (hAR 38 (by rw [hd_1]; exact Nat.le_of_ble_eq_true rfl)) (rl_ok (n := 38) rfl (Nat.le_refl _)) (rs_ok (n := 38) rfl (Nat.le_refl _)) dX11_init_95 ?_
  refine go_putqF hC (j := 9) (idx := 69) (nm := "meter") (ds := "LLampWays$Meter;") tyX11 hini (by rw [hd_86]; rfl) rfl rfl hn11 tyX11_ok nmX11 (Nat.le_of_ble_eq_true rfl) rfl rfl (List.mem_cons_of_mem _ (List.mem_append_left _ (List.mem_append_left _ (List.mem_append_left _ (List.mem_append_left _ (List.mem_append_left _ (List.mem_append_left _ (List.mem_append_left _ (List.mem_append_left _ (List.mem_append_left _ (List.mem_append_right _ (List.mem_append_left _ (List.mem_of_getElem? (i := 12) rfl))))))))))))) rfl rfl (tyX11_ok _ (Nat.le_of_ble_eq_true rfl)) (fun _ => ⟨rfl, rfl⟩) dX11_init_98 ?_
  refine go_toph (h1 := hs_87) rfl ?_
  refine go_aload_n hC dX11_init_101 rfl 0 rfl ?_
  refine go_iconst hC dX11_init_102 k1_1 ?_
  refine go_newa hC (N2 := 1) (Or.inl ⟨rfl, rfl⟩) (List.mem_cons_of_mem _ (List.mem_append_left _ (List.mem_append_left _ (List.mem_append_left _ (List.mem_append_left _ (List.mem_append_left _ (List.mem_append_left _ (List.mem_append_left _ (List.mem_append_left _ (List.mem_append_left _ (List.mem_append_right _ (List.mem_append_left _ (List.mem_of_getElem? (i := 13) rfl))))))))))))) (by decide) (by decide) (Nat.le_of_ble_eq_true rfl) (Nat.le_of_ble_eq_true rfl) (Nat.le_of_ble_eq_true rfl) (by rw [hd_87]; rfl) wh_87 (Nat.le_of_ble_eq_true rfl) (hAR 42 (by rw [hd_1]; exact Nat.le_of_ble_eq_true rfl)) (rl_ok (n := 42) rfl (Nat.le_refl _)) (rs_ok (n := 42) rfl (Nat.le_refl _)) dX11_init_103 ?_
  refine go_toph (h1 := hs_88) rfl ?_
  refine go_putqF hC (j := 10) (idx := 73) (nm := "tracing") (ds := "[I") tyX11 hini (by rw [hd_88]; rfl) rfl rfl hn11 tyX11_ok nmX11 (Nat.le_of_ble_eq_true rfl) rfl rfl (List.mem_cons_of_mem _ (List.mem_append_left _ (List.mem_append_left _ (List.mem_append_left _ (List.mem_append_left _ (List.mem_append_left _ (List.mem_append_left _ (List.mem_append_left _ (List.mem_append_left _ (List.mem_append_left _ (List.mem_append_right _ (List.mem_append_left _ (List.mem_of_getElem? (i := 14) rfl))))))))))))) rfl rfl (tyX11_ok _ (Nat.le_of_ble_eq_true rfl)) (fun _ => ⟨rfl, rfl⟩) dX11_init_105 ?_
  refine go_toph (h1 := hs_89) rfl ?_
  exact hret _ _ dX11_init_108
set_option maxRecDepth 100000 in
set_option maxHeartbeats 4000000 in
theorem ci_X12_init : ConA yX12_init wsX12_init (rm_a 1 27 3120) [] [.ref 43] hs_90 none hs_148 := by
  have hn12 : ∀ w ∈ wsX120, w ∈ wsX12_init := (fun _ hw => (List.mem_cons_of_mem _ (List.mem_append_right _ hw)))
  refine con_vA (cc := cX12_init) (nL := 2) (by decide) rfl (Nat.le_of_ble_eq_true rfl) ?_
  intro C hC hret hAR hini
  replace hini := hini rfl
  change Go [] C 0 0 0 [(0, .ref 43)] [] hs_90
  refine go_aload_n hC dX12_init_0 rfl 0 rfl ?_
  refine go_obj hC (List.mem_cons_of_mem _ (List.mem_append_left _ (List.mem_append_left _ (List.mem_of_getElem? (i := 0) rfl)))) (List.mem_cons_of_mem _ (List.mem_append_left _ (List.mem_append_left _ (List.mem_of_getElem? (i := 1) rfl)))) (List.mem_cons_of_mem _ (List.mem_append_left _ (List.mem_append_left _ (List.mem_of_getElem? (i := 2) rfl)))) ⟨Nat.le_of_ble_eq_true rfl, Nat.le_of_ble_eq_true rfl⟩ dX12_init_1 ?_
  refine go_aload_n hC dX12_init_4 rfl 0 rfl ?_
  refine go_bipush hC dX12_init_5 k8_14 ?_
  refine go_newa hC (N2 := 14) (Or.inl ⟨rfl, rfl⟩) (List.mem_cons_of_mem _ (List.mem_append_left _ (List.mem_append_left _ (List.mem_of_getElem? (i := 3) rfl)))) (by decide) (by decide) (Nat.le_of_ble_eq_true rfl) (Nat.le_of_ble_eq_true rfl) (Nat.le_of_ble_eq_true rfl) (by rw [hd_90]; rfl) wh_90 (Nat.le_of_ble_eq_true rfl) (hAR 44 (by rw [hd_90]; exact Nat.le_of_ble_eq_true rfl)) (rl_ok (n := 44) rfl (Nat.le_refl _)) (rs_ok (n := 44) rfl (Nat.le_refl _)) dX12_init_7 ?_
  refine go_toph (h1 := hs_91) rfl ?_
  refine go_putqF hC (j := 4) (idx := 7) (nm := "runOne") (ds := "[I") tyX12 hini (by rw [hd_91]; rfl) rfl rfl hn12 tyX12_ok nmX12 (Nat.le_of_ble_eq_true rfl) rfl rfl (List.mem_cons_of_mem _ (List.mem_append_left _ (List.mem_append_left _ (List.mem_of_getElem? (i := 4) rfl)))) rfl rfl (tyX12_ok _ (Nat.le_of_ble_eq_true rfl)) (fun _ => ⟨rfl, rfl⟩) dX12_init_9 ?_
  refine go_toph (h1 := hs_92) rfl ?_
  refine go_aload_n hC dX12_init_12 rfl 0 rfl ?_
  refine go_bipush hC dX12_init_13 k8_14 ?_
  refine go_newa hC (N2 := 14) (Or.inl ⟨rfl, rfl⟩) (List.mem_cons_of_mem _ (List.mem_append_left _ (List.mem_append_left _ (List.mem_of_getElem? (i := 3) rfl)))) (by decide) (by decide) (Nat.le_of_ble_eq_true rfl) (Nat.le_of_ble_eq_true rfl) (Nat.le_of_ble_eq_true rfl) (by rw [hd_92]; rfl) wh_92 (Nat.le_of_ble_eq_true rfl) (hAR 45 (by rw [hd_90]; exact Nat.le_of_ble_eq_true rfl)) (rl_ok (n := 45) rfl (Nat.le_refl _)) (rs_ok (n := 45) rfl (Nat.le_refl _)) dX12_init_15 ?_
  refine go_toph (h1 := hs_93) rfl ?_
  refine go_putqF hC (j := 5) (idx := 13) (nm := "runTwo") (ds := "[I") tyX12 hini (by rw [hd_93]; rfl) rfl rfl hn12 tyX12_ok nmX12 (Nat.le_of_ble_eq_true rfl) rfl rfl (List.mem_cons_of_mem _ (List.mem_append_left _ (List.mem_append_left _ (List.mem_of_getElem? (i := 5) rfl)))) rfl rfl (tyX12_ok _ (Nat.le_of_ble_eq_true rfl)) (fun _ => ⟨rfl, rfl⟩) dX12_init_17 ?_
  refine go_toph (h1 := hs_94) rfl ?_
  refine go_aload_n hC dX12_init_20 rfl 0 rfl ?_
  refine go_bipush hC dX12_init_21 k8_14 ?_
  refine go_newa hC (N2 := 14) (Or.inl ⟨rfl, rfl⟩) (List.mem_cons_of_mem _ (List.mem_append_left _ (List.mem_append_left _ (List.mem_of_getElem? (i := 3) rfl)))) (by decide) (by decide) (Nat.le_of_ble_eq_true rfl) (Nat.le_of_ble_eq_true rfl) (Nat.le_of_ble_eq_true rfl) (by rw [hd_94]; rfl) wh_94 (Nat.le_of_ble_eq_true rfl) (hAR 46 (by rw [hd_90]; exact Nat.le_of_ble_eq_true rfl)) (rl_ok (n := 46) rfl (Nat.le_refl _)) (rs_ok (n := 46) rfl (Nat.le_refl _)) dX12_init_23 ?_
  refine go_toph (h1 := hs_95) rfl ?_
  refine go_putqF hC (j := 6) (idx := 16) (nm := "runYards") (ds := "[I") tyX12 hini (by rw [hd_95]; rfl) rfl rfl hn12 tyX12_ok nmX12 (Nat.le_of_ble_eq_true rfl) rfl rfl (List.mem_cons_of_mem _ (List.mem_append_left _ (List.mem_append_left _ (List.mem_of_getElem? (i := 6) rfl)))) rfl rfl (tyX12_ok _ (Nat.le_of_ble_eq_true rfl)) (fun _ => ⟨rfl, rfl⟩) dX12_init_25 ?_
  refine go_toph (h1 := hs_96) rfl ?_
  refine go_aload_n hC dX12_init_28 rfl 0 rfl ?_
  refine go_bipush hC dX12_init_29 k8_14 ?_
  refine go_newa hC (N2 := 14) (Or.inl ⟨rfl, rfl⟩) (List.mem_cons_of_mem _ (List.mem_append_left _ (List.mem_append_left _ (List.mem_of_getElem? (i := 3) rfl)))) (by decide) (by decide) (Nat.le_of_ble_eq_true rfl) (Nat.le_of_ble_eq_true rfl) (Nat.le_of_ble_eq_true rfl) (by rw [hd_96]; rfl) wh_96 (Nat.le_of_ble_eq_true rfl) (hAR 47 (by rw [hd_90]; exact Nat.le_of_ble_eq_true rfl)) (rl_ok (n := 47) rfl (Nat.le_refl _)) (rs_ok (n := 47) rfl (Nat.le_refl _)) dX12_init_31 ?_
  refine go_toph (h1 := hs_97) rfl ?_
  refine go_putqF hC (j := 7) (idx := 19) (nm := "runDrilled") (ds := "[I") tyX12 hini (by rw [hd_97]; rfl) rfl rfl hn12 tyX12_ok nmX12 (Nat.le_of_ble_eq_true rfl) rfl rfl (List.mem_cons_of_mem _ (List.mem_append_left _ (List.mem_append_left _ (List.mem_of_getElem? (i := 7) rfl)))) rfl rfl (tyX12_ok _ (Nat.le_of_ble_eq_true rfl)) (fun _ => ⟨rfl, rfl⟩) dX12_init_33 ?_
  refine go_toph (h1 := hs_98) rfl ?_
  refine go_aload_n hC dX12_init_36 rfl 0 rfl ?_
  refine go_bipush hC dX12_init_37 k8_14 ?_
  refine go_newa hC (N2 := 14) (Or.inr (Or.inl ⟨rfl, rfl⟩)) (List.mem_cons_of_mem _ (List.mem_append_left _ (List.mem_append_left _ (List.mem_of_getElem? (i := 8) rfl)))) (by decide) (by decide) (Nat.le_of_ble_eq_true rfl) (Nat.le_of_ble_eq_true rfl) (Nat.le_of_ble_eq_true rfl) (by rw [hd_98]; rfl) wh_98 (Nat.le_of_ble_eq_true rfl) (hAR 48 (by rw [hd_90]; exact Nat.le_of_ble_eq_true rfl)) (rl_ok (n := 48) rfl (Nat.le_refl _)) (rs_ok (n := 48) rfl (Nat.le_refl _)) dX12_init_39 ?_
  refine go_toph (h1 := hs_99) rfl ?_
  refine go_putqF hC (j := 8) (idx := 22) (nm := "isShut") (ds := "[Z") tyX12 hini (by rw [hd_99]; rfl) rfl rfl hn12 tyX12_ok nmX12 (Nat.le_of_ble_eq_true rfl) rfl rfl (List.mem_cons_of_mem _ (List.mem_append_left _ (List.mem_append_left _ (List.mem_of_getElem? (i := 9) rfl)))) rfl rfl (tyX12_ok _ (Nat.le_of_ble_eq_true rfl)) (fun _ => ⟨rfl, rfl⟩) dX12_init_41 ?_
  refine go_toph (h1 := hs_100) rfl ?_
  refine go_aload_n hC dX12_init_44 rfl 0 rfl ?_
  refine go_bipush hC dX12_init_45 k8_14 ?_
  refine go_newa hC (N2 := 14) (Or.inl ⟨rfl, rfl⟩) (List.mem_cons_of_mem _ (List.mem_append_left _ (List.mem_append_left _ (List.mem_of_getElem? (i := 3) rfl)))) (by decide) (by decide) (Nat.le_of_ble_eq_true rfl) (Nat.le_of_ble_eq_true rfl) (Nat.le_of_ble_eq_true rfl) (by rw [hd_100]; rfl) wh_100 (Nat.le_of_ble_eq_true rfl) (hAR 49 (by rw [hd_90]; exact Nat.le_of_ble_eq_true rfl)) (rl_ok (n := 49) rfl (Nat.le_refl _)) (rs_ok (n := 49) rfl (Nat.le_refl _)) dX12_init_47 ?_
  refine go_toph (h1 := hs_101) rfl ?_
  refine go_putqF hC (j := 14) (idx := 26) (nm := "readOne") (ds := "[I") tyX12 hini (by rw [hd_101]; rfl) rfl rfl hn12 tyX12_ok nmX12 (Nat.le_of_ble_eq_true rfl) rfl rfl (List.mem_cons_of_mem _ (List.mem_append_left _ (List.mem_append_left _ (List.mem_of_getElem? (i := 10) rfl)))) rfl rfl (tyX12_ok _ (Nat.le_of_ble_eq_true rfl)) (fun _ => ⟨rfl, rfl⟩) dX12_init_49 ?_
  refine go_toph (h1 := hs_102) rfl ?_
  refine go_aload_n hC dX12_init_52 rfl 0 rfl ?_
  refine go_bipush hC dX12_init_53 k8_14 ?_
  refine go_newa hC (N2 := 14) (Or.inl ⟨rfl, rfl⟩) (List.mem_cons_of_mem _ (List.mem_append_left _ (List.mem_append_left _ (List.mem_of_getElem? (i := 3) rfl)))) (by decide) (by decide) (Nat.le_of_ble_eq_true rfl) (Nat.le_of_ble_eq_true rfl) (Nat.le_of_ble_eq_true rfl) (by rw [hd_102]; rfl) wh_102 (Nat.le_of_ble_eq_true rfl) (hAR 50 (by rw [hd_90]; exact Nat.le_of_ble_eq_true rfl)) (rl_ok (n := 50) rfl (Nat.le_refl _)) (rs_ok (n := 50) rfl (Nat.le_refl _)) dX12_init_55 ?_
  refine go_toph (h1 := hs_103) rfl ?_
  refine go_putqF hC (j := 15) (idx := 29) (nm := "readTwo") (ds := "[I") tyX12 hini (by rw [hd_103]; rfl) rfl rfl hn12 tyX12_ok nmX12 (Nat.le_of_ble_eq_true rfl) rfl rfl (List.mem_cons_of_mem _ (List.mem_append_left _ (List.mem_append_left _ (List.mem_of_getElem? (i := 11) rfl)))) rfl rfl (tyX12_ok _ (Nat.le_of_ble_eq_true rfl)) (fun _ => ⟨rfl, rfl⟩) dX12_init_57 ?_
  refine go_toph (h1 := hs_104) rfl ?_
  refine go_aload_n hC dX12_init_60 rfl 0 rfl ?_
  refine go_bipush hC dX12_init_61 k8_14 ?_
  refine go_newa hC (N2 := 14) (Or.inl ⟨rfl, rfl⟩) (List.mem_cons_of_mem _ (List.mem_append_left _ (List.mem_append_left _ (List.mem_of_getElem? (i := 3) rfl)))) (by decide) (by decide) (Nat.le_of_ble_eq_true rfl) (Nat.le_of_ble_eq_true rfl) (Nat.le_of_ble_eq_true rfl) (by rw [hd_104]; rfl) wh_104 (Nat.le_of_ble_eq_true rfl) (hAR 51 (by rw [hd_90]; exact Nat.le_of_ble_eq_true rfl)) (rl_ok (n := 51) rfl (Nat.le_refl _)) (rs_ok (n := 51) rfl (Nat.le_refl _)) dX12_init_63 ?_
  refine go_toph (h1 := hs_105) rfl ?_
  refine go_putqF hC (j := 16) (idx := 32) (nm := "readYards") (ds := "[I") tyX12 hini (by rw [hd_105]; rfl) rfl rfl hn12 tyX12_ok nmX12 (Nat.le_of_ble_eq_true rfl) rfl rfl (List.mem_cons_of_mem _ (List.mem_append_left _ (List.mem_append_left _ (List.mem_of_getElem? (i := 12) rfl)))) rfl rfl (tyX12_ok _ (Nat.le_of_ble_eq_true rfl)) (fun _ => ⟨rfl, rfl⟩) dX12_init_65 ?_
  refine go_toph (h1 := hs_106) rfl ?_
  refine go_aload_n hC dX12_init_68 rfl 0 rfl ?_
  refine go_bipush hC dX12_init_69 k8_14 ?_
  refine go_newa hC (N2 := 14) (Or.inl ⟨rfl, rfl⟩) (List.mem_cons_of_mem _ (List.mem_append_left _ (List.mem_append_left _ (List.mem_of_getElem? (i := 3) rfl)))) (by decide) (by decide) (Nat.le_of_ble_eq_true rfl) (Nat.le_of_ble_eq_true rfl) (Nat.le_of_ble_eq_true rfl) (by rw [hd_106]; rfl) wh_106 (Nat.le_of_ble_eq_true rfl) (hAR 52 (by rw [hd_90]; exact Nat.le_of_ble_eq_true rfl)) (rl_ok (n := 52) rfl (Nat.le_refl _)) (rs_ok (n := 52) rfl (Nat.le_refl _)) dX12_init_71 ?_
  refine go_toph (h1 := hs_107) rfl ?_
  refine go_putqF hC (j := 17) (idx := 35) (nm := "readDrilled") (ds := "[I") tyX12 hini (by rw [hd_107]; rfl) rfl rfl hn12 tyX12_ok nmX12 (Nat.le_of_ble_eq_true rfl) rfl rfl (List.mem_cons_of_mem _ (List.mem_append_left _ (List.mem_append_left _ (List.mem_of_getElem? (i := 13) rfl)))) rfl rfl (tyX12_ok _ (Nat.le_of_ble_eq_true rfl)) (fun _ => ⟨rfl, rfl⟩) dX12_init_73 ?_
  refine go_toph (h1 := hs_108) rfl ?_
  refine go_aload_n hC dX12_init_76 rfl 0 rfl ?_
  refine go_bipush hC dX12_init_77 k8_64 ?_
  refine go_newa hC (N2 := 64) (Or.inl ⟨rfl, rfl⟩) (List.mem_cons_of_mem _ (List.mem_append_left _ (List.mem_append_left _ (List.mem_of_getElem? (i := 3) rfl)))) (by decide) (by decide) (Nat.le_of_ble_eq_true rfl) (Nat.le_of_ble_eq_true rfl) (Nat.le_of_ble_eq_true rfl) (by rw [hd_108]; rfl) wh_108 (Nat.le_of_ble_eq_true rfl) (hAR 53 (by rw [hd_90]; exact Nat.le_of_ble_eq_true rfl)) (rl_ok (n := 53) rfl (Nat.le_refl _)) (rs_ok (n := 53) rfl (Nat.le_refl _)) dX12_init_79 ?_
  refine go_toph (h1 := hs_109) rfl ?_
  refine go_putqF hC (j := 18) (idx := 38) (nm := "far") (ds := "[I") tyX12 hini (by rw [hd_109]; rfl) rfl rfl hn12 tyX12_ok nmX12 (Nat.le_of_ble_eq_true rfl) rfl rfl (List.mem_cons_of_mem _ (List.mem_append_left _ (List.mem_append_left _ (List.mem_of_getElem? (i := 14) rfl)))) rfl rfl (tyX12_ok _ (Nat.le_of_ble_eq_true rfl)) (fun _ => ⟨rfl, rfl⟩) dX12_init_81 ?_
  refine go_toph (h1 := hs_110) rfl ?_
  refine go_aload_n hC dX12_init_84 rfl 0 rfl ?_
  refine go_bipush hC dX12_init_85 k8_8 ?_
  refine go_newa hC (N2 := 8) (Or.inl ⟨rfl, rfl⟩) (List.mem_cons_of_mem _ (List.mem_append_left _ (List.mem_append_left _ (List.mem_of_getElem? (i := 3) rfl)))) (by decide) (by decide) (Nat.le_of_ble_eq_true rfl) (Nat.le_of_ble_eq_true rfl) (Nat.le_of_ble_eq_true rfl) (by rw [hd_110]; rfl) wh_110 (Nat.le_of_ble_eq_true rfl) (hAR 54 (by rw [hd_90]; exact Nat.le_of_ble_eq_true rfl)) (rl_ok (n := 54) rfl (Nat.le_refl _)) (rs_ok (n := 54) rfl (Nat.le_refl _)) dX12_init_87 ?_
  refine go_toph (h1 := hs_111) rfl ?_
  refine go_putqF hC (j := 20) (idx := 41) (nm := "placeOf") (ds := "[I") tyX12 hini (by rw [hd_111]; rfl) rfl rfl hn12 tyX12_ok nmX12 (Nat.le_of_ble_eq_true rfl) rfl rfl (List.mem_cons_of_mem _ (List.mem_append_left _ (List.mem_append_left _ (List.mem_of_getElem? (i := 15) rfl)))) rfl rfl (tyX12_ok _ (Nat.le_of_ble_eq_true rfl)) (fun _ => ⟨rfl, rfl⟩) dX12_init_89 ?_
  refine go_toph (h1 := hs_112) rfl ?_
  refine go_aload_n hC dX12_init_92 rfl 0 rfl ?_
  refine go_bipush hC dX12_init_93 k8_8 ?_
  refine go_newa hC (N2 := 8) (Or.inl ⟨rfl, rfl⟩) (List.mem_cons_of_mem _ (List.mem_append_left _ (List.mem_append_left _ (List.mem_of_getElem? (i := 3) rfl)))) (by decide) (by decide) (Nat.le_of_ble_eq_true rfl) (Nat.le_of_ble_eq_true rfl) (Nat.le_of_ble_eq_true rfl) (by rw [hd_112]; rfl) wh_112 (Nat.le_of_ble_eq_true rfl) (hAR 55 (by rw [hd_90]; exact Nat.le_of_ble_eq_true rfl)) (rl_ok (n := 55) rfl (Nat.le_refl _)) (rs_ok (n := 55) rfl (Nat.le_refl _)) dX12_init_95 ?_
  refine go_toph (h1 := hs_113) rfl ?_
  refine go_putqF hC (j := 21) (idx := 44) (nm := "loadOf") (ds := "[I") tyX12 hini (by rw [hd_113]; rfl) rfl rfl hn12 tyX12_ok nmX12 (Nat.le_of_ble_eq_true rfl) rfl rfl (List.mem_cons_of_mem _ (List.mem_append_left _ (List.mem_append_left _ (List.mem_of_getElem? (i := 16) rfl)))) rfl rfl (tyX12_ok _ (Nat.le_of_ble_eq_true rfl)) (fun _ => ⟨rfl, rfl⟩) dX12_init_97 ?_
  refine go_toph (h1 := hs_114) rfl ?_
  refine go_aload_n hC dX12_init_100 rfl 0 rfl ?_
  refine go_bipush hC dX12_init_101 k8_8 ?_
  refine go_newa hC (N2 := 8) (Or.inl ⟨rfl, rfl⟩) (List.mem_cons_of_mem _ (List.mem_append_left _ (List.mem_append_left _ (List.mem_of_getElem? (i := 3) rfl)))) (by decide) (by decide) (Nat.le_of_ble_eq_true rfl) (Nat.le_of_ble_eq_true rfl) (Nat.le_of_ble_eq_true rfl) (by rw [hd_114]; rfl) wh_114 (Nat.le_of_ble_eq_true rfl) (hAR 56 (by rw [hd_90]; exact Nat.le_of_ble_eq_true rfl)) (rl_ok (n := 56) rfl (Nat.le_refl _)) (rs_ok (n := 56) rfl (Nat.le_refl _)) dX12_init_103 ?_
  refine go_toph (h1 := hs_115) rfl ?_
  refine go_putqF hC (j := 22) (idx := 47) (nm := "roomOf") (ds := "[I") tyX12 hini (by rw [hd_115]; rfl) rfl rfl hn12 tyX12_ok nmX12 (Nat.le_of_ble_eq_true rfl) rfl rfl (List.mem_cons_of_mem _ (List.mem_append_left _ (List.mem_append_left _ (List.mem_of_getElem? (i := 17) rfl)))) rfl rfl (tyX12_ok _ (Nat.le_of_ble_eq_true rfl)) (fun _ => ⟨rfl, rfl⟩) dX12_init_105 ?_
  refine go_toph (h1 := hs_116) rfl ?_
  refine go_aload_n hC dX12_init_108 rfl 0 rfl ?_
  refine go_bipush hC dX12_init_109 k8_6 ?_
  refine go_newa hC (N2 := 6) (Or.inr (Or.inl ⟨rfl, rfl⟩)) (List.mem_cons_of_mem _ (List.mem_append_left _ (List.mem_append_left _ (List.mem_of_getElem? (i := 8) rfl)))) (by decide) (by decide) (Nat.le_of_ble_eq_true rfl) (Nat.le_of_ble_eq_true rfl) (Nat.le_of_ble_eq_true rfl) (by rw [hd_116]; rfl) wh_116 (Nat.le_of_ble_eq_true rfl) (hAR 57 (by rw [hd_90]; exact Nat.le_of_ble_eq_true rfl)) (rl_ok (n := 57) rfl (Nat.le_refl _)) (rs_ok (n := 57) rfl (Nat.le_refl _)) dX12_init_111 ?_
  refine go_toph (h1 := hs_117) rfl ?_
  refine go_putqF hC (j := 24) (idx := 50) (nm := "isHere") (ds := "[Z") tyX12 hini (by rw [hd_117]; rfl) rfl rfl hn12 tyX12_ok nmX12 (Nat.le_of_ble_eq_true rfl) rfl rfl (List.mem_cons_of_mem _ (List.mem_append_left _ (List.mem_append_left _ (List.mem_of_getElem? (i := 18) rfl)))) rfl rfl (tyX12_ok _ (Nat.le_of_ble_eq_true rfl)) (fun _ => ⟨rfl, rfl⟩) dX12_init_113 ?_
  refine go_toph (h1 := hs_118) rfl ?_
  refine go_aload_n hC dX12_init_116 rfl 0 rfl ?_
  refine go_bipush hC dX12_init_117 k8_6 ?_
  refine go_newa hC (N2 := 6) (Or.inl ⟨rfl, rfl⟩) (List.mem_cons_of_mem _ (List.mem_append_left _ (List.mem_append_left _ (List.mem_of_getElem? (i := 3) rfl)))) (by decide) (by decide) (Nat.le_of_ble_eq_true rfl) (Nat.le_of_ble_eq_true rfl) (Nat.le_of_ble_eq_true rfl) (by rw [hd_118]; rfl) wh_118 (Nat.le_of_ble_eq_true rfl) (hAR 58 (by rw [hd_90]; exact Nat.le_of_ble_eq_true rfl)) (rl_ok (n := 58) rfl (Nat.le_refl _)) (rs_ok (n := 58) rfl (Nat.le_refl _)) dX12_init_119 ?_
  refine go_toph (h1 := hs_119) rfl ?_
  refine go_putqF hC (j := 25) (idx := 53) (nm := "wayKind") (ds := "[I") tyX12 hini (by rw [hd_119]; rfl) rfl rfl hn12 tyX12_ok nmX12 (Nat.le_of_ble_eq_true rfl) rfl rfl (List.mem_cons_of_mem _ (List.mem_append_left _ (List.mem_append_left _ (List.mem_of_getElem? (i := 19) rfl)))) rfl rfl (tyX12_ok _ (Nat.le_of_ble_eq_true rfl)) (fun _ => ⟨rfl, rfl⟩) dX12_init_121 ?_
  refine go_toph (h1 := hs_120) rfl ?_
  refine go_aload_n hC dX12_init_124 rfl 0 rfl ?_
  refine go_bipush hC dX12_init_125 k8_6 ?_
  refine go_newa hC (N2 := 6) (Or.inl ⟨rfl, rfl⟩) (List.mem_cons_of_mem _ (List.mem_append_left _ (List.mem_append_left _ (List.mem_of_getElem? (i := 3) rfl)))) (by decide) (by decide) (Nat.le_of_ble_eq_true rfl) (Nat.le_of_ble_eq_true rfl) (Nat.le_of_ble_eq_true rfl) (by rw [hd_120]; rfl) wh_120 (Nat.le_of_ble_eq_true rfl) (hAR 59 (by rw [hd_90]; exact Nat.le_of_ble_eq_true rfl)) (rl_ok (n := 59) rfl (Nat.le_refl _)) (rs_ok (n := 59) rfl (Nat.le_refl _)) dX12_init_127 ?_
  refine go_toph (h1 := hs_121) rfl ?_
  refine go_putqF hC (j := 26) (idx := 56) (nm := "wayFuse") (ds := "[I") tyX12 hini (by rw [hd_121]; rfl) rfl rfl hn12 tyX12_ok nmX12 (Nat.le_of_ble_eq_true rfl) rfl rfl (List.mem_cons_of_mem _ (List.mem_append_left _ (List.mem_append_left _ (List.mem_of_getElem? (i := 20) rfl)))) rfl rfl (tyX12_ok _ (Nat.le_of_ble_eq_true rfl)) (fun _ => ⟨rfl, rfl⟩) dX12_init_129 ?_
  refine go_toph (h1 := hs_122) rfl ?_
  refine go_aload_n hC dX12_init_132 rfl 0 rfl ?_
  refine go_bipush hC dX12_init_133 k8_6 ?_
  refine go_newa hC (N2 := 6) (Or.inl ⟨rfl, rfl⟩) (List.mem_cons_of_mem _ (List.mem_append_left _ (List.mem_append_left _ (List.mem_of_getElem? (i := 3) rfl)))) (by decide) (by decide) (Nat.le_of_ble_eq_true rfl) (Nat.le_of_ble_eq_true rfl) (Nat.le_of_ble_eq_true rfl) (by rw [hd_122]; rfl) wh_122 (Nat.le_of_ble_eq_true rfl) (hAR 60 (by rw [hd_90]; exact Nat.le_of_ble_eq_true rfl)) (rl_ok (n := 60) rfl (Nat.le_refl _)) (rs_ok (n := 60) rfl (Nat.le_refl _)) dX12_init_135 ?_
  refine go_toph (h1 := hs_123) rfl ?_
  refine go_putqF hC (j := 27) (idx := 59) (nm := "wayMany") (ds := "[I") tyX12 hini (by rw [hd_123]; rfl) rfl rfl hn12 tyX12_ok nmX12 (Nat.le_of_ble_eq_true rfl) rfl rfl (List.mem_cons_of_mem _ (List.mem_append_left _ (List.mem_append_left _ (List.mem_of_getElem? (i := 21) rfl)))) rfl rfl (tyX12_ok _ (Nat.le_of_ble_eq_true rfl)) (fun _ => ⟨rfl, rfl⟩) dX12_init_137 ?_
  refine go_toph (h1 := hs_124) rfl ?_
  refine go_aload_n hC dX12_init_140 rfl 0 rfl ?_
  refine go_bipush hC dX12_init_141 k8_36 ?_
  refine go_newa hC (N2 := 36) (Or.inl ⟨rfl, rfl⟩) (List.mem_cons_of_mem _ (List.mem_append_left _ (List.mem_append_left _ (List.mem_of_getElem? (i := 3) rfl)))) (by decide) (by decide) (Nat.le_of_ble_eq_true rfl) (Nat.le_of_ble_eq_true rfl) (Nat.le_of_ble_eq_true rfl) (by rw [hd_124]; rfl) wh_124 (Nat.le_of_ble_eq_true rfl) (hAR 61 (by rw [hd_90]; exact Nat.le_of_ble_eq_true rfl)) (rl_ok (n := 61) rfl (Nat.le_refl _)) (rs_ok (n := 61) rfl (Nat.le_refl _)) dX12_init_143 ?_
  refine go_toph (h1 := hs_125) rfl ?_
  refine go_putqF hC (j := 28) (idx := 62) (nm := "wayPoint") (ds := "[I") tyX12 hini (by rw [hd_125]; rfl) rfl rfl hn12 tyX12_ok nmX12 (Nat.le_of_ble_eq_true rfl) rfl rfl (List.mem_cons_of_mem _ (List.mem_append_left _ (List.mem_append_left _ (List.mem_of_getElem? (i := 22) rfl)))) rfl rfl (tyX12_ok _ (Nat.le_of_ble_eq_true rfl)) (fun _ => ⟨rfl, rfl⟩) dX12_init_145 ?_
  refine go_toph (h1 := hs_126) rfl ?_
  refine go_aload_n hC dX12_init_148 rfl 0 rfl ?_
  refine go_bipush hC dX12_init_149 k8_7 ?_
  refine go_newa hC (N2 := 7) (Or.inr (Or.inr ⟨rfl, rfl⟩)) (List.mem_cons_of_mem _ (List.mem_append_left _ (List.mem_append_left _ (List.mem_of_getElem? (i := 23) rfl)))) (by decide) (by decide) (Nat.le_of_ble_eq_true rfl) (Nat.le_of_ble_eq_true rfl) (Nat.le_of_ble_eq_true rfl) (by rw [hd_126]; rfl) wh_126 (Nat.le_of_ble_eq_true rfl) (hAR 62 (by rw [hd_90]; exact Nat.le_of_ble_eq_true rfl)) (rl_ok (n := 62) rfl (Nat.le_refl _)) (rs_ok (n := 62) rfl (Nat.le_refl _)) dX12_init_151 ?_
  refine go_toph (h1 := hs_127) rfl ?_
  refine go_putqF hC (j := 30) (idx := 65) (nm := "carry") (ds := "[J") tyX12 hini (by rw [hd_127]; rfl) rfl rfl hn12 tyX12_ok nmX12 (Nat.le_of_ble_eq_true rfl) rfl rfl (List.mem_cons_of_mem _ (List.mem_append_left _ (List.mem_append_right _ (List.mem_of_getElem? (i := 0) rfl)))) rfl rfl (tyX12_ok _ (Nat.le_of_ble_eq_true rfl)) (fun _ => ⟨rfl, rfl⟩) dX12_init_153 ?_
  refine go_toph (h1 := hs_128) rfl ?_
  refine go_aload_n hC dX12_init_156 rfl 0 rfl ?_
  refine go_sipush hC dX12_init_157 k16_2304 ?_
  refine go_newa hC (N2 := 2304) (Or.inl ⟨rfl, rfl⟩) (List.mem_cons_of_mem _ (List.mem_append_left _ (List.mem_append_left _ (List.mem_of_getElem? (i := 3) rfl)))) (by decide) (by decide) (Nat.le_of_ble_eq_true rfl) (Nat.le_of_ble_eq_true rfl) (Nat.le_of_ble_eq_true rfl) (by rw [hd_128]; rfl) wh_128 (Nat.le_of_ble_eq_true rfl) (hAR 63 (by rw [hd_90]; exact Nat.le_of_ble_eq_true rfl)) (rl_ok (n := 63) rfl (Nat.le_refl _)) (rs_ok (n := 63) rfl (Nat.le_refl _)) dX12_init_160 ?_
  refine go_toph (h1 := hs_129) rfl ?_
  refine go_putqF hC (j := 31) (idx := 69) (nm := "needFrom") (ds := "[I") tyX12 hini (by rw [hd_129]; rfl) rfl rfl hn12 tyX12_ok nmX12 (Nat.le_of_ble_eq_true rfl) rfl rfl (List.mem_cons_of_mem _ (List.mem_append_left _ (List.mem_append_right _ (List.mem_of_getElem? (i := 1) rfl)))) rfl rfl (tyX12_ok _ (Nat.le_of_ble_eq_true rfl)) (fun _ => ⟨rfl, rfl⟩) dX12_init_162 ?_
  refine go_toph (h1 := hs_130) rfl ?_
  refine go_aload_n hC dX12_init_165 rfl 0 rfl ?_
  refine go_iconst hC dX12_init_166 k1_3 ?_
  refine go_newa hC (N2 := 3) (Or.inl ⟨rfl, rfl⟩) (List.mem_cons_of_mem _ (List.mem_append_left _ (List.mem_append_left _ (List.mem_of_getElem? (i := 3) rfl)))) (by decide) (by decide) (Nat.le_of_ble_eq_true rfl) (Nat.le_of_ble_eq_true rfl) (Nat.le_of_ble_eq_true rfl) (by rw [hd_130]; rfl) wh_130 (Nat.le_of_ble_eq_true rfl) (hAR 64 (by rw [hd_90]; exact Nat.le_of_ble_eq_true rfl)) (rl_ok (n := 64) rfl (Nat.le_refl _)) (rs_ok (n := 64) rfl (Nat.le_refl _)) dX12_init_167 ?_
  refine go_toph (h1 := hs_131) rfl ?_
  refine go_putqF hC (j := 32) (idx := 72) (nm := "setOn") (ds := "[I") tyX12 hini (by rw [hd_131]; rfl) rfl rfl hn12 tyX12_ok nmX12 (Nat.le_of_ble_eq_true rfl) rfl rfl (List.mem_cons_of_mem _ (List.mem_append_left _ (List.mem_append_right _ (List.mem_of_getElem? (i := 2) rfl)))) rfl rfl (tyX12_ok _ (Nat.le_of_ble_eq_true rfl)) (fun _ => ⟨rfl, rfl⟩) dX12_init_169 ?_
  refine go_toph (h1 := hs_132) rfl ?_
  refine go_aload_n hC dX12_init_172 rfl 0 rfl ?_
  refine go_bipush hC dX12_init_173 k8_12 ?_
  refine go_newa hC (N2 := 12) (Or.inl ⟨rfl, rfl⟩) (List.mem_cons_of_mem _ (List.mem_append_left _ (List.mem_append_left _ (List.mem_of_getElem? (i := 3) rfl)))) (by decide) (by decide) (Nat.le_of_ble_eq_true rfl) (Nat.le_of_ble_eq_true rfl) (Nat.le_of_ble_eq_true rfl) (by rw [hd_132]; rfl) wh_132 (Nat.le_of_ble_eq_true rfl) (hAR 65 (by rw [hd_90]; exact Nat.le_of_ble_eq_true rfl)) (rl_ok (n := 65) rfl (Nat.le_refl _)) (rs_ok (n := 65) rfl (Nat.le_refl _)) dX12_init_175 ?_
  refine go_toph (h1 := hs_133) rfl ?_
  refine go_putqF hC (j := 38) (idx := 75) (nm := "readingSet") (ds := "[I") tyX12 hini (by rw [hd_133]; rfl) rfl rfl hn12 tyX12_ok nmX12 (Nat.le_of_ble_eq_true rfl) rfl rfl (List.mem_cons_of_mem _ (List.mem_append_left _ (List.mem_append_right _ (List.mem_of_getElem? (i := 3) rfl)))) rfl rfl (tyX12_ok _ (Nat.le_of_ble_eq_true rfl)) (fun _ => ⟨rfl, rfl⟩) dX12_init_177 ?_
  refine go_toph (h1 := hs_134) rfl ?_
  refine go_aload_n hC dX12_init_180 rfl 0 rfl ?_
  refine go_bipush hC dX12_init_181 k8_12 ?_
  refine go_newa hC (N2 := 12) (Or.inl ⟨rfl, rfl⟩) (List.mem_cons_of_mem _ (List.mem_append_left _ (List.mem_append_left _ (List.mem_of_getElem? (i := 3) rfl)))) (by decide) (by decide) (Nat.le_of_ble_eq_true rfl) (Nat.le_of_ble_eq_true rfl) (Nat.le_of_ble_eq_true rfl) (by rw [hd_134]; rfl) wh_134 (Nat.le_of_ble_eq_true rfl) (hAR 66 (by rw [hd_90]; exact Nat.le_of_ble_eq_true rfl)) (rl_ok (n := 66) rfl (Nat.le_refl _)) (rs_ok (n := 66) rfl (Nat.le_refl _)) dX12_init_183 ?_
  refine go_toph (h1 := hs_135) rfl ?_
  refine go_putqF hC (j := 39) (idx := 78) (nm := "readingShows") (ds := "[I") tyX12 hini (by rw [hd_135]; rfl) rfl rfl hn12 tyX12_ok nmX12 (Nat.le_of_ble_eq_true rfl) rfl rfl (List.mem_cons_of_mem _ (List.mem_append_left _ (List.mem_append_right _ (List.mem_of_getElem? (i := 4) rfl)))) rfl rfl (tyX12_ok _ (Nat.le_of_ble_eq_true rfl)) (fun _ => ⟨rfl, rfl⟩) dX12_init_185 ?_
  refine go_toph (h1 := hs_136) rfl ?_
  refine go_aload_n hC dX12_init_188 rfl 0 rfl ?_
  refine go_iconst hC dX12_init_189 k1_4 ?_
  refine go_newa hC (N2 := 4) (Or.inl ⟨rfl, rfl⟩) (List.mem_cons_of_mem _ (List.mem_append_left _ (List.mem_append_left _ (List.mem_of_getElem? (i := 3) rfl)))) (by decide) (by decide) (Nat.le_of_ble_eq_true rfl) (Nat.le_of_ble_eq_true rfl) (Nat.le_of_ble_eq_true rfl) (by rw [hd_136]; rfl) wh_136 (Nat.le_of_ble_eq_true rfl) (hAR 67 (by rw [hd_90]; exact Nat.le_of_ble_eq_true rfl)) (rl_ok (n := 67) rfl (Nat.le_refl _)) (rs_ok (n := 67) rfl (Nat.le_refl _)) dX12_init_190 ?_
  refine go_toph (h1 := hs_137) rfl ?_
  refine go_putqF hC (j := 40) (idx := 81) (nm := "sheetSize") (ds := "[I") tyX12 hini (by rw [hd_137]; rfl) rfl rfl hn12 tyX12_ok nmX12 (Nat.le_of_ble_eq_true rfl) rfl rfl (List.mem_cons_of_mem _ (List.mem_append_left _ (List.mem_append_right _ (List.mem_of_getElem? (i := 5) rfl)))) rfl rfl (tyX12_ok _ (Nat.le_of_ble_eq_true rfl)) (fun _ => ⟨rfl, rfl⟩) dX12_init_192 ?_
  refine go_toph (h1 := hs_138) rfl ?_
  refine go_aload_n hC dX12_init_195 rfl 0 rfl ?_
  refine go_iconst hC dX12_init_196 k1_4 ?_
  refine go_newa hC (N2 := 4) (Or.inl ⟨rfl, rfl⟩) (List.mem_cons_of_mem _ (List.mem_append_left _ (List.mem_append_left _ (List.mem_of_getElem? (i := 3) rfl)))) (by decide) (by decide) (Nat.le_of_ble_eq_true rfl) (Nat.le_of_ble_eq_true rfl) (Nat.le_of_ble_eq_true rfl) (by rw [hd_138]; rfl) wh_138 (Nat.le_of_ble_eq_true rfl) (hAR 68 (by rw [hd_90]; exact Nat.le_of_ble_eq_true rfl)) (rl_ok (n := 68) rfl (Nat.le_refl _)) (rs_ok (n := 68) rfl (Nat.le_refl _)) dX12_init_197 ?_
  refine go_toph (h1 := hs_139) rfl ?_
  refine go_putqF hC (j := 41) (idx := 84) (nm := "sheetLane") (ds := "[I") tyX12 hini (by rw [hd_139]; rfl) rfl rfl hn12 tyX12_ok nmX12 (Nat.le_of_ble_eq_true rfl) rfl rfl (List.mem_cons_of_mem _ (List.mem_append_left _ (List.mem_append_right _ (List.mem_of_getElem? (i := 6) rfl)))) rfl rfl (tyX12_ok _ (Nat.le_of_ble_eq_true rfl)) (fun _ => ⟨rfl, rfl⟩) dX12_init_199 ?_
  refine go_toph (h1 := hs_140) rfl ?_
  refine go_aload_n hC dX12_init_202 rfl 0 rfl ?_
  refine go_sipush hC dX12_init_203 k16_400 ?_
  refine go_newa hC (N2 := 400) (Or.inl ⟨rfl, rfl⟩) (List.mem_cons_of_mem _ (List.mem_append_left _ (List.mem_append_left _ (List.mem_of_getElem? (i := 3) rfl)))) (by decide) (by decide) (Nat.le_of_ble_eq_true rfl) (Nat.le_of_ble_eq_true rfl) (Nat.le_of_ble_eq_true rfl) (by rw [hd_140]; rfl) wh_140 (Nat.le_of_ble_eq_true rfl) (hAR 69 (by rw [hd_90]; exact Nat.le_of_ble_eq_true rfl)) (rl_ok (n := 69) rfl (Nat.le_refl _)) (rs_ok (n := 69) rfl (Nat.le_refl _)) dX12_init_206 ?_
  refine go_toph (h1 := hs_141) rfl ?_
  refine go_putqF hC (j := 42) (idx := 87) (nm := "sheet") (ds := "[I") tyX12 hini (by rw [hd_141]; rfl) rfl rfl hn12 tyX12_ok nmX12 (Nat.le_of_ble_eq_true rfl) rfl rfl (List.mem_cons_of_mem _ (List.mem_append_left _ (List.mem_append_right _ (List.mem_of_getElem? (i := 7) rfl)))) rfl rfl (tyX12_ok _ (Nat.le_of_ble_eq_true rfl)) (fun _ => ⟨rfl, rfl⟩) dX12_init_208 ?_
  refine go_toph (h1 := hs_142) rfl ?_
  refine go_aload_n hC dX12_init_211 rfl 0 rfl ?_
  refine go_bipush hC dX12_init_212 k8_100 ?_
  refine go_newa hC (N2 := 100) (Or.inl ⟨rfl, rfl⟩) (List.mem_cons_of_mem _ (List.mem_append_left _ (List.mem_append_left _ (List.mem_of_getElem? (i := 3) rfl)))) (by decide) (by decide) (Nat.le_of_ble_eq_true rfl) (Nat.le_of_ble_eq_true rfl) (Nat.le_of_ble_eq_true rfl) (by rw [hd_142]; rfl) wh_142 (Nat.le_of_ble_eq_true rfl) (hAR 70 (by rw [hd_90]; exact Nat.le_of_ble_eq_true rfl)) (rl_ok (n := 70) rfl (Nat.le_refl _)) (rs_ok (n := 70) rfl (Nat.le_refl _)) dX12_init_214 ?_
  refine go_toph (h1 := hs_143) rfl ?_
  refine go_putqF hC (j := 43) (idx := 90) (nm := "hands") (ds := "[I") tyX12 hini (by rw [hd_143]; rfl) rfl rfl hn12 tyX12_ok nmX12 (Nat.le_of_ble_eq_true rfl) rfl rfl (List.mem_cons_of_mem _ (List.mem_append_left _ (List.mem_append_right _ (List.mem_of_getElem? (i := 8) rfl)))) rfl rfl (tyX12_ok _ (Nat.le_of_ble_eq_true rfl)) (fun _ => ⟨rfl, rfl⟩) dX12_init_216 ?_
  refine go_toph (h1 := hs_144) rfl ?_
  refine go_iconst hC dX12_init_219 k1_0 ?_
  refine go_istore_n hC dX12_init_220 rfl (Nat.le_of_ble_eq_true rfl) rfl ?_
  refine go_iload_n hC dX12_init_221 rfl 0 rfl ?_
  refine go_iconst hC dX12_init_222 k1_4 ?_
  refine go_icmp_ge hC dX12_init_223 (tgt := 239) (by decide) (fun c9 => absurd c9 (by decide)) (fun c9 => ?_)
  refine go_aload_n hC dX12_init_226 rfl 1 rfl ?_
  refine go_geto hC (j := 40) (idx := 81) (nm := "sheetSize") (ds := "[I") (by rw [hd_144]; rfl) rfl rfl hn12 (Nat.le_of_ble_eq_true rfl) rfl rfl (List.mem_cons_of_mem _ (List.mem_append_left _ (List.mem_append_right _ (List.mem_of_getElem? (i := 5) rfl)))) (Or.inl rfl) (by decide +kernel) dX12_init_227 ?_
  refine go_iload_n hC dX12_init_230 rfl 0 rfl ?_
  refine go_iconst hC dX12_init_231 k1_m1 ?_
  refine go_iast hC (n := 4) (by rw [hd_144]; rfl) (by unfold vp_in; decide) dX12_init_232 ?_
  refine go_toph (h1 := hs_145) rfl ?_
  refine go_iinc hC (v := 1) dX12_init_233 0 rfl k1_1 (by decide) (Nat.le_of_ble_eq_true rfl) rfl ?_
  refine go_goto hC dX12_init_236 (tgt := 221) (by decide) ?_
  refine go_iload_n hC dX12_init_221 rfl 0 rfl ?_
  refine go_iconst hC dX12_init_222 k1_4 ?_
  refine go_icmp_ge hC dX12_init_223 (tgt := 239) (by decide) (fun c9 => absurd c9 (by decide)) (fun c9 => ?_)
  refine go_aload_n hC dX12_init_226 rfl 1 rfl ?_
  refine go_geto hC (j := 40) (idx := 81) (nm := "sheetSize") (ds := "[I") (by rw [hd_145]; rfl) rfl rfl hn12 (Nat.le_of_ble_eq_true rfl) rfl rfl (List.mem_cons_of_mem _ (List.mem_append_left _ (List.mem_append_right _ (List.mem_of_getElem? (i := 5) rfl)))) (Or.inl rfl) (by decide +kernel) dX12_init_227 ?_
  refine go_iload_n hC dX12_init_230 rfl 0 rfl ?_
  refine go_iconst hC dX12_init_231 k1_m1 ?_
  refine go_iast hC (n := 4) (by rw [hd_145]; rfl) (by unfold vp_in; decide) dX12_init_232 ?_
  refine go_toph (h1 := hs_146) rfl ?_
  refine go_iinc hC (v := 2) dX12_init_233 0 rfl k1_1 (by decide) (Nat.le_of_ble_eq_true rfl) rfl ?_
  refine go_goto hC dX12_init_236 (tgt := 221) (by decide) ?_
  refine go_iload_n hC dX12_init_221 rfl 0 rfl ?_
  refine go_iconst hC dX12_init_222 k1_4 ?_
  refine go_icmp_ge hC dX12_init_223 (tgt := 239) (by decide) (fun c9 => absurd c9 (by decide)) (fun c9 => ?_)
  refine go_aload_n hC dX12_init_226 rfl 1 rfl ?_
  refine go_geto hC (j := 40) (idx := 81) (nm := "sheetSize") (ds := "[I") (by rw [hd_146]; rfl) rfl rfl hn12 (Nat.le_of_ble_eq_true rfl) rfl rfl (List.mem_cons_of_mem _ (List.mem_append_left _ (List.mem_append_right _ (List.mem_of_getElem? (i := 5) rfl)))) (Or.inl rfl) (by decide +kernel) dX12_init_227 ?_
  refine go_iload_n hC dX12_init_230 rfl 0 rfl ?_
  refine go_iconst hC dX12_init_231 k1_m1 ?_
  refine go_iast hC (n := 4) (by rw [hd_146]; rfl) (by unfold vp_in; decide) dX12_init_232 ?_
  refine go_toph (h1 := hs_147) rfl ?_
  refine go_iinc hC (v := 3) dX12_init_233 0 rfl k1_1 (by decide) (Nat.le_of_ble_eq_true rfl) rfl ?_
  refine go_goto hC dX12_init_236 (tgt := 221) (by decide) ?_
  refine go_iload_n hC dX12_init_221 rfl 0 rfl ?_
  refine go_iconst hC dX12_init_222 k1_4 ?_
  refine go_icmp_ge hC dX12_init_223 (tgt := 239) (by decide) (fun c9 => absurd c9 (by decide)) (fun c9 => ?_)
  refine go_aload_n hC dX12_init_226 rfl 1 rfl ?_
  refine go_geto hC (j := 40) (idx := 81) (nm := "sheetSize") (ds := "[I") (by rw [hd_147]; rfl) rfl rfl hn12 (Nat.le_of_ble_eq_true rfl) rfl rfl (List.mem_cons_of_mem _ (List.mem_append_left _ (List.mem_append_right _ (List.mem_of_getElem? (i := 5) rfl)))) (Or.inl rfl) (by decide +kernel) dX12_init_227 ?_
  refine go_iload_n hC dX12_init_230 rfl 0 rfl ?_
  refine go_iconst hC dX12_init_231 k1_m1 ?_
  refine go_iast hC (n := 4) (by rw [hd_147]; rfl) (by unfold vp_in; decide) dX12_init_232 ?_
  refine go_toph (h1 := hs_148) rfl ?_
  refine go_iinc hC (v := 4) dX12_init_233 0 rfl k1_1 (by decide) (Nat.le_of_ble_eq_true rfl) rfl ?_
  refine go_goto hC dX12_init_236 (tgt := 221) (by decide) ?_
  refine go_iload_n hC dX12_init_221 rfl 0 rfl ?_
  refine go_iconst hC dX12_init_222 k1_4 ?_
  refine go_icmp_ge hC dX12_init_223 (tgt := 239) (by decide) (fun c9 => ?_) (fun c9 => absurd c9 (by decide))
  exact hret _ _ dX12_init_239
